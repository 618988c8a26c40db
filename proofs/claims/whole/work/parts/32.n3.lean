/-- the number of the event at a place of the row -/
def rr (z : cZ) (t : Nat) : Nat := (zr z 0 t).getD 0
/-- the class's shape -/
abbrev CI (h : cH) (z : cZ) : Prop := (64 ≤ h.1 0) ∧ (h.1 0 ≤ 24000) ∧ (64 ≤ h.1 1) ∧ (h.1 1 ≤ 32768) ∧ (64 ≤ h.1 2) ∧ (h.1 2 ≤ 16000) ∧ (16 ≤ h.1 3) ∧ (h.1 3 ≤ 2000) ∧ (h.1 4 = h.1 3) ∧ (h.2.1 ≤ h.1 3) ∧ (∀ t, t < h.2.1 → zr z 0 t = some (rr z t)) ∧ (∀ t, h.2.1 ≤ t → zr z 0 t = none) ∧ (wfz h z) ∧ (∀ t t', t < h.2.1 → t' < h.2.1 → rr z t = rr z t' → t = t')
theorem CI.l0 {h : cH} {z : cZ} (s : CI h z) : 64 ≤ h.1 0 := s.1
theorem CI.u0 {h : cH} {z : cZ} (s : CI h z) : h.1 0 ≤ 24000 := s.2.1
theorem CI.l1 {h : cH} {z : cZ} (s : CI h z) : 64 ≤ h.1 1 := s.2.2.1
theorem CI.u1 {h : cH} {z : cZ} (s : CI h z) : h.1 1 ≤ 32768 := s.2.2.2.1
theorem CI.l2 {h : cH} {z : cZ} (s : CI h z) : 64 ≤ h.1 2 := s.2.2.2.2.1
theorem CI.u2 {h : cH} {z : cZ} (s : CI h z) : h.1 2 ≤ 16000 := s.2.2.2.2.2.1
theorem CI.l3 {h : cH} {z : cZ} (s : CI h z) : 16 ≤ h.1 3 := s.2.2.2.2.2.2.1
theorem CI.u3 {h : cH} {z : cZ} (s : CI h z) : h.1 3 ≤ 2000 := s.2.2.2.2.2.2.2.1
theorem CI.l4 {h : cH} {z : cZ} (s : CI h z) : h.1 4 = h.1 3 := s.2.2.2.2.2.2.2.2.1
theorem CI.ne {h : cH} {z : cZ} (s : CI h z) : h.2.1 ≤ h.1 3 := s.2.2.2.2.2.2.2.2.2.1
theorem CI.ro {h : cH} {z : cZ} (s : CI h z) : ∀ t, t < h.2.1 → zr z 0 t = some (rr z t) := s.2.2.2.2.2.2.2.2.2.2.1
theorem CI.rn {h : cH} {z : cZ} (s : CI h z) : ∀ t, h.2.1 ≤ t → zr z 0 t = none := s.2.2.2.2.2.2.2.2.2.2.2.1
theorem CI.wf {h : cH} {z : cZ} (s : CI h z) : wfz h z := s.2.2.2.2.2.2.2.2.2.2.2.2.1
theorem CI.ij {h : cH} {z : cZ} (s : CI h z) : ∀ t t', t < h.2.1 → t' < h.2.1 → rr z t = rr z t' → t = t' := s.2.2.2.2.2.2.2.2.2.2.2.2.2
def isB (x : Int32) : Prop := ∃ c, c < 256 ∧ x = nt c
abbrev IN (h : cH) (z : cZ) (iv : Nat → Int32) (av : Nat → Nat → Int32) (n : Nat) : Prop := (n ≤ h.1 0) ∧ (n ≤ 12000) ∧ (zi z 0 = nt n) ∧ (iv 1 = nt n) ∧ (∀ i, i < n → za z 0 i = av 0 i) ∧ (∀ i, i < n → isB (av 0 i))
theorem IN.cap {h : cH} {z : cZ} {iv : Nat → Int32} {av : Nat → Nat → Int32} {n : Nat} (s : IN h z iv av n) : n ≤ h.1 0 := s.1
theorem IN.mx {h : cH} {z : cZ} {iv : Nat → Int32} {av : Nat → Nat → Int32} {n : Nat} (s : IN h z iv av n) : n ≤ 12000 := s.2.1
theorem IN.c {h : cH} {z : cZ} {iv : Nat → Int32} {av : Nat → Nat → Int32} {n : Nat} (s : IN h z iv av n) : zi z 0 = nt n := s.2.2.1
theorem IN.m {h : cH} {z : cZ} {iv : Nat → Int32} {av : Nat → Nat → Int32} {n : Nat} (s : IN h z iv av n) : iv 1 = nt n := s.2.2.2.1
theorem IN.eq {h : cH} {z : cZ} {iv : Nat → Int32} {av : Nat → Nat → Int32} {n : Nat} (s : IN h z iv av n) : ∀ i, i < n → za z 0 i = av 0 i := s.2.2.2.2.1
theorem IN.by' {h : cH} {z : cZ} {iv : Nat → Int32} {av : Nat → Nat → Int32} {n : Nat} (s : IN h z iv av n) : ∀ i, i < n → isB (av 0 i) := s.2.2.2.2.2
abbrev OUT (h : cH) (z : cZ) (iv : Nat → Int32) (av : Nat → Nat → Int32) (n : Nat) : Prop := (n ≤ h.1 1) ∧ (n ≤ 16384) ∧ (zi z 1 = nt n) ∧ (iv 12 = nt n) ∧ (∀ i, i < n → za z 1 i = av 11 i) ∧ (∀ i, i < n → isB (av 11 i))
theorem OUT.cap {h : cH} {z : cZ} {iv : Nat → Int32} {av : Nat → Nat → Int32} {n : Nat} (s : OUT h z iv av n) : n ≤ h.1 1 := s.1
theorem OUT.mx {h : cH} {z : cZ} {iv : Nat → Int32} {av : Nat → Nat → Int32} {n : Nat} (s : OUT h z iv av n) : n ≤ 16384 := s.2.1
theorem OUT.c {h : cH} {z : cZ} {iv : Nat → Int32} {av : Nat → Nat → Int32} {n : Nat} (s : OUT h z iv av n) : zi z 1 = nt n := s.2.2.1
theorem OUT.m {h : cH} {z : cZ} {iv : Nat → Int32} {av : Nat → Nat → Int32} {n : Nat} (s : OUT h z iv av n) : iv 12 = nt n := s.2.2.2.1
theorem OUT.eq {h : cH} {z : cZ} {iv : Nat → Int32} {av : Nat → Nat → Int32} {n : Nat} (s : OUT h z iv av n) : ∀ i, i < n → za z 1 i = av 11 i := s.2.2.2.2.1
theorem OUT.by' {h : cH} {z : cZ} {iv : Nat → Int32} {av : Nat → Nat → Int32} {n : Nat} (s : OUT h z iv av n) : ∀ i, i < n → isB (av 11 i) := s.2.2.2.2.2
abbrev DAT (h : cH) (z : cZ) (av : Nat → Nat → Int32) (n : Nat) : Prop := (n ≤ h.1 2) ∧ (n ≤ 8000) ∧ (zi z 2 = nt n) ∧ (∀ i, i < n → za z 2 i = av 10 i) ∧ (∀ i, i < n → isB (av 10 i))
theorem DAT.cap {h : cH} {z : cZ} {av : Nat → Nat → Int32} {n : Nat} (s : DAT h z av n) : n ≤ h.1 2 := s.1
theorem DAT.mx {h : cH} {z : cZ} {av : Nat → Nat → Int32} {n : Nat} (s : DAT h z av n) : n ≤ 8000 := s.2.1
theorem DAT.c {h : cH} {z : cZ} {av : Nat → Nat → Int32} {n : Nat} (s : DAT h z av n) : zi z 2 = nt n := s.2.2.1
theorem DAT.eq {h : cH} {z : cZ} {av : Nat → Nat → Int32} {n : Nat} (s : DAT h z av n) : ∀ i, i < n → za z 2 i = av 10 i := s.2.2.2.1
theorem DAT.by' {h : cH} {z : cZ} {av : Nat → Nat → Int32} {n : Nat} (s : DAT h z av n) : ∀ i, i < n → isB (av 10 i) := s.2.2.2.2
abbrev EVS (h : cH) (z : cZ) (iv : Nat → Int32) (av : Nat → Nat → Int32) (n : Nat) (o : Nat → Nat) : Prop := (n ≤ 1000) ∧ (n ≤ h.2.1) ∧ (zi z 7 = nt n) ∧ (iv 10 = nt n) ∧ (∀ k, k < n → ∀ f, f < 7 → ze z (rr z k) f = av (f + 1) (o k)) ∧ (∀ k, k < n → o k < n)
theorem EVS.mx {h : cH} {z : cZ} {iv : Nat → Int32} {av : Nat → Nat → Int32} {n : Nat} {o : Nat → Nat} (s : EVS h z iv av n o) : n ≤ 1000 := s.1
theorem EVS.ne {h : cH} {z : cZ} {iv : Nat → Int32} {av : Nat → Nat → Int32} {n : Nat} {o : Nat → Nat} (s : EVS h z iv av n o) : n ≤ h.2.1 := s.2.1
theorem EVS.c {h : cH} {z : cZ} {iv : Nat → Int32} {av : Nat → Nat → Int32} {n : Nat} {o : Nat → Nat} (s : EVS h z iv av n o) : zi z 7 = nt n := s.2.2.1
theorem EVS.m {h : cH} {z : cZ} {iv : Nat → Int32} {av : Nat → Nat → Int32} {n : Nat} {o : Nat → Nat} (s : EVS h z iv av n o) : iv 10 = nt n := s.2.2.2.1
theorem EVS.eq {h : cH} {z : cZ} {iv : Nat → Int32} {av : Nat → Nat → Int32} {n : Nat} {o : Nat → Nat} (s : EVS h z iv av n o) : ∀ k, k < n → ∀ f, f < 7 → ze z (rr z k) f = av (f + 1) (o k) := s.2.2.2.2.1
theorem EVS.ol {h : cH} {z : cZ} {iv : Nat → Int32} {av : Nat → Nat → Int32} {n : Nat} {o : Nat → Nat} (s : EVS h z iv av n o) : ∀ k, k < n → o k < n := s.2.2.2.2.2
/-- an event's fields: tick track status first second start size -/
abbrev EvOK (a : Nat → Int32) (nd tr : Nat) : Prop := (∃ T, T ≤ 268435455 ∧ a 0 = nt T) ∧ (∃ K, K < tr ∧ a 1 = nt K) ∧ (∃ s, a 2 = nt s ∧ ((128 ≤ s ∧ s < 240 ∧ (∃ f, f < 128 ∧ a 3 = nt f) ∧ ((192 ≤ s ∧ s < 224 ∧ a 4 = -1) ∨ ((s < 192 ∨ 224 ≤ s) ∧ ∃ g, g < 128 ∧ a 4 = nt g)) ∧ a 6 = -1) ∨ ((s = 240 ∨ s = 247) ∧ a 3 = -1 ∧ a 4 = -1 ∧ ∃ st c, a 5 = nt st ∧ a 6 = nt c ∧ st + c ≤ nd) ∨ (s = 255 ∧ a 4 = -1 ∧ ∃ f st c, f < 128 ∧ a 3 = nt f ∧ a 5 = nt st ∧ a 6 = nt c ∧ st + c ≤ nd ∧ (f = 81 → c = 3))))
theorem EvOK.tick {a : Nat → Int32} {nd tr : Nat} (s : EvOK a nd tr) : ∃ T, T ≤ 268435455 ∧ a 0 = nt T := s.1
theorem EvOK.track {a : Nat → Int32} {nd tr : Nat} (s : EvOK a nd tr) : ∃ K, K < tr ∧ a 1 = nt K := s.2.1
theorem EvOK.kind {a : Nat → Int32} {nd tr : Nat} (s : EvOK a nd tr) : ∃ s, a 2 = nt s ∧ ((128 ≤ s ∧ s < 240 ∧ (∃ f, f < 128 ∧ a 3 = nt f) ∧ ((192 ≤ s ∧ s < 224 ∧ a 4 = -1) ∨ ((s < 192 ∨ 224 ≤ s) ∧ ∃ g, g < 128 ∧ a 4 = nt g)) ∧ a 6 = -1) ∨ ((s = 240 ∨ s = 247) ∧ a 3 = -1 ∧ a 4 = -1 ∧ ∃ st c, a 5 = nt st ∧ a 6 = nt c ∧ st + c ≤ nd) ∨ (s = 255 ∧ a 4 = -1 ∧ ∃ f st c, f < 128 ∧ a 3 = nt f ∧ a 5 = nt st ∧ a 6 = nt c ∧ st + c ≤ nd ∧ (f = 81 → c = 3))) := s.2.2
def DV (d : Nat) : Prop := (1 ≤ d ∧ d ≤ 32767) ∨ (32768 ≤ d ∧ d < 65536 ∧ (d / 256 = 232 ∨ d / 256 = 231 ∨ d / 256 = 227 ∨ d / 256 = 226) ∧ 0 < d % 256)
abbrev LST (h : cH) (z : cZ) (iv : Nat → Int32) (av : Nat → Nat → Int32) (n : Nat) (o : Nat → Nat) (nd fm tr dv : Nat) : Prop := (EVS h z iv av n o) ∧ (DAT h z av nd) ∧ (∀ k, k < n → av 8 k = nt (o k)) ∧ (∀ k k', k < n → k' < n → o k = o k' → k = k') ∧ (fm ≤ 2) ∧ (zi z 4 = nt fm) ∧ (iv 7 = nt fm) ∧ (1 ≤ tr) ∧ (tr ≤ 16) ∧ (zi z 5 = nt tr) ∧ (iv 8 = nt tr) ∧ (DV dv) ∧ (zi z 6 = nt dv) ∧ (iv 9 = nt dv) ∧ (∀ e, e < n → EvOK (fun f => av (f + 1) e) nd tr) ∧ (∀ i j, i < j → j < n → av 1 (o i) ≤ av 1 (o j)) ∧ (((List.range n).map (fun e => (av 7 e).toNatClampNeg)).sum ≤ nd)
theorem LST.ev {h : cH} {z : cZ} {iv : Nat → Int32} {av : Nat → Nat → Int32} {n : Nat} {o : Nat → Nat} {nd fm tr dv : Nat} (s : LST h z iv av n o nd fm tr dv) : EVS h z iv av n o := s.1
theorem LST.da {h : cH} {z : cZ} {iv : Nat → Int32} {av : Nat → Nat → Int32} {n : Nat} {o : Nat → Nat} {nd fm tr dv : Nat} (s : LST h z iv av n o nd fm tr dv) : DAT h z av nd := s.2.1
theorem LST.om {h : cH} {z : cZ} {iv : Nat → Int32} {av : Nat → Nat → Int32} {n : Nat} {o : Nat → Nat} {nd fm tr dv : Nat} (s : LST h z iv av n o nd fm tr dv) : ∀ k, k < n → av 8 k = nt (o k) := s.2.2.1
theorem LST.oi {h : cH} {z : cZ} {iv : Nat → Int32} {av : Nat → Nat → Int32} {n : Nat} {o : Nat → Nat} {nd fm tr dv : Nat} (s : LST h z iv av n o nd fm tr dv) : ∀ k k', k < n → k' < n → o k = o k' → k = k' := s.2.2.2.1
theorem LST.fmx {h : cH} {z : cZ} {iv : Nat → Int32} {av : Nat → Nat → Int32} {n : Nat} {o : Nat → Nat} {nd fm tr dv : Nat} (s : LST h z iv av n o nd fm tr dv) : fm ≤ 2 := s.2.2.2.2.1
theorem LST.fc {h : cH} {z : cZ} {iv : Nat → Int32} {av : Nat → Nat → Int32} {n : Nat} {o : Nat → Nat} {nd fm tr dv : Nat} (s : LST h z iv av n o nd fm tr dv) : zi z 4 = nt fm := s.2.2.2.2.2.1
theorem LST.fi {h : cH} {z : cZ} {iv : Nat → Int32} {av : Nat → Nat → Int32} {n : Nat} {o : Nat → Nat} {nd fm tr dv : Nat} (s : LST h z iv av n o nd fm tr dv) : iv 7 = nt fm := s.2.2.2.2.2.2.1
theorem LST.t1 {h : cH} {z : cZ} {iv : Nat → Int32} {av : Nat → Nat → Int32} {n : Nat} {o : Nat → Nat} {nd fm tr dv : Nat} (s : LST h z iv av n o nd fm tr dv) : 1 ≤ tr := s.2.2.2.2.2.2.2.1
theorem LST.tmx {h : cH} {z : cZ} {iv : Nat → Int32} {av : Nat → Nat → Int32} {n : Nat} {o : Nat → Nat} {nd fm tr dv : Nat} (s : LST h z iv av n o nd fm tr dv) : tr ≤ 16 := s.2.2.2.2.2.2.2.2.1
theorem LST.tc {h : cH} {z : cZ} {iv : Nat → Int32} {av : Nat → Nat → Int32} {n : Nat} {o : Nat → Nat} {nd fm tr dv : Nat} (s : LST h z iv av n o nd fm tr dv) : zi z 5 = nt tr := s.2.2.2.2.2.2.2.2.2.1
theorem LST.ti {h : cH} {z : cZ} {iv : Nat → Int32} {av : Nat → Nat → Int32} {n : Nat} {o : Nat → Nat} {nd fm tr dv : Nat} (s : LST h z iv av n o nd fm tr dv) : iv 8 = nt tr := s.2.2.2.2.2.2.2.2.2.2.1
theorem LST.dmx {h : cH} {z : cZ} {iv : Nat → Int32} {av : Nat → Nat → Int32} {n : Nat} {o : Nat → Nat} {nd fm tr dv : Nat} (s : LST h z iv av n o nd fm tr dv) : DV dv := s.2.2.2.2.2.2.2.2.2.2.2.1
theorem LST.dc {h : cH} {z : cZ} {iv : Nat → Int32} {av : Nat → Nat → Int32} {n : Nat} {o : Nat → Nat} {nd fm tr dv : Nat} (s : LST h z iv av n o nd fm tr dv) : zi z 6 = nt dv := s.2.2.2.2.2.2.2.2.2.2.2.2.1
theorem LST.di {h : cH} {z : cZ} {iv : Nat → Int32} {av : Nat → Nat → Int32} {n : Nat} {o : Nat → Nat} {nd fm tr dv : Nat} (s : LST h z iv av n o nd fm tr dv) : iv 9 = nt dv := s.2.2.2.2.2.2.2.2.2.2.2.2.2.1
theorem LST.ok {h : cH} {z : cZ} {iv : Nat → Int32} {av : Nat → Nat → Int32} {n : Nat} {o : Nat → Nat} {nd fm tr dv : Nat} (s : LST h z iv av n o nd fm tr dv) : ∀ e, e < n → EvOK (fun f => av (f + 1) e) nd tr := s.2.2.2.2.2.2.2.2.2.2.2.2.2.2.1
theorem LST.so {h : cH} {z : cZ} {iv : Nat → Int32} {av : Nat → Nat → Int32} {n : Nat} {o : Nat → Nat} {nd fm tr dv : Nat} (s : LST h z iv av n o nd fm tr dv) : ∀ i j, i < j → j < n → av 1 (o i) ≤ av 1 (o j) := s.2.2.2.2.2.2.2.2.2.2.2.2.2.2.2.1
theorem LST.su {h : cH} {z : cZ} {iv : Nat → Int32} {av : Nat → Nat → Int32} {n : Nat} {o : Nat → Nat} {nd fm tr dv : Nat} (s : LST h z iv av n o nd fm tr dv) : ((List.range n).map (fun e => (av 7 e).toNatClampNeg)).sum ≤ nd := s.2.2.2.2.2.2.2.2.2.2.2.2.2.2.2.2
abbrev Rel (h : cH) (z : cZ) (iv : Nat → Int32) (av : Nat → Nat → Int32) : Prop := (CI h z) ∧ (∃ n, IN h z iv av n) ∧ (∃ n, OUT h z iv av n) ∧ (zi z 3 = iv 6) ∧ (iv 6 = 0 ∨ iv 6 = 1) ∧ (iv 6 = 1 → ∃ n o nd fm tr dv, LST h z iv av n o nd fm tr dv) ∧ (iv 6 = 0 → zi z 7 = 0 ∧ iv 10 = 0)
theorem Rel.ci {h : cH} {z : cZ} {iv : Nat → Int32} {av : Nat → Nat → Int32} (s : Rel h z iv av) : CI h z := s.1
theorem Rel.inp {h : cH} {z : cZ} {iv : Nat → Int32} {av : Nat → Nat → Int32} (s : Rel h z iv av) : ∃ n, IN h z iv av n := s.2.1
theorem Rel.out {h : cH} {z : cZ} {iv : Nat → Int32} {av : Nat → Nat → Int32} (s : Rel h z iv av) : ∃ n, OUT h z iv av n := s.2.2.1
theorem Rel.pr {h : cH} {z : cZ} {iv : Nat → Int32} {av : Nat → Nat → Int32} (s : Rel h z iv av) : zi z 3 = iv 6 := s.2.2.2.1
theorem Rel.p01 {h : cH} {z : cZ} {iv : Nat → Int32} {av : Nat → Nat → Int32} (s : Rel h z iv av) : iv 6 = 0 ∨ iv 6 = 1 := s.2.2.2.2.1
theorem Rel.lst {h : cH} {z : cZ} {iv : Nat → Int32} {av : Nat → Nat → Int32} (s : Rel h z iv av) : iv 6 = 1 → ∃ n o nd fm tr dv, LST h z iv av n o nd fm tr dv := s.2.2.2.2.2.1
theorem Rel.non {h : cH} {z : cZ} {iv : Nat → Int32} {av : Nat → Nat → Int32} (s : Rel h z iv av) : iv 6 = 0 → zi z 7 = 0 ∧ iv 10 = 0 := s.2.2.2.2.2.2
theorem IN.iv {h z iv av n} {iv' : Nat → Int32} (r : IN h z iv av n) (e : iv' 1 = iv 1) : IN h z iv' av n := ⟨r.cap, r.mx, r.c, e.trans r.m, r.eq, r.by'⟩
theorem OUT.iv {h z iv av n} {iv' : Nat → Int32} (r : OUT h z iv av n) (e : iv' 12 = iv 12) : OUT h z iv' av n := ⟨r.cap, r.mx, r.c, e.trans r.m, r.eq, r.by'⟩
theorem EVS.iv {h z iv av n o} {iv' : Nat → Int32} (r : EVS h z iv av n o) (e : iv' 10 = iv 10) : EVS h z iv' av n o := ⟨r.mx, r.ne, r.c, e.trans r.m, r.eq, r.ol⟩
theorem LST.iv {h z iv av n o nd fm tr dv} {iv' : Nat → Int32} (r : LST h z iv av n o nd fm tr dv) (e7 : iv' 7 = iv 7) (e8 : iv' 8 = iv 8) (e9 : iv' 9 = iv 9) (e10 : iv' 10 = iv 10) : LST h z iv' av n o nd fm tr dv :=
  ⟨r.ev.iv e10, r.da, r.om, r.oi, r.fmx, r.fc, e7.trans r.fi, r.t1, r.tmx, r.tc, e8.trans r.ti, r.dmx, r.dc, e9.trans r.di, r.ok, r.so, r.su⟩
theorem Rel.iv {h z iv av} {iv' : Nat → Int32} (r : Rel h z iv av) (e : ∀ k, k ≠ 0 → iv' k = iv k) : Rel h z iv' av :=
  ⟨r.ci, r.inp.elim fun n w => ⟨n, w.iv (e 1 (by decide))⟩, r.out.elim fun n w => ⟨n, w.iv (e 12 (by decide))⟩,
  by rw [e 6 (by decide)]; exact r.pr,
  by rw [e 6 (by decide)]; exact r.p01,
  fun q => by
    rw [e 6 (by decide)] at q
    obtain ⟨n, o, nd, fm, tr, dv, w⟩ := r.lst q
    exact ⟨n, o, nd, fm, tr, dv, w.iv (e 7 (by decide)) (e 8 (by decide)) (e 9 (by decide)) (e 10 (by decide))⟩,
  fun q => by rw [e 6 (by decide)] at q; rw [e 10 (by decide)]; exact r.non q⟩
theorem Rel.thr {h z iv av} {x : Int32} (r : Rel h z iv av) : Rel h z (upd iv 0 x) av := r.iv fun k hk => upd_n hk
theorem lt_nt {x : Int32} (h : ¬ x < 0) : ∃ i, i < 2147483648 ∧ x = nt i := by
  have h1 : 0 ≤ x.toInt := by
    rw [Int32.lt_iff_toInt_lt] at h; exact Int.not_lt.mp h
  refine ⟨x.toNatClampNeg, ?_, nt_of h1⟩
  have := Int32.toInt_lt x
  rw [Int32.toNatClampNeg]; omega
/-- the number of events -/
theorem Rel.cnt {h z iv av} (r : Rel h z iv av) : ∃ n, n ≤ 1000 ∧ zi z 7 = nt n ∧ iv 10 = nt n ∧ (n = 0 ∨ iv 6 = 1) := by
  rcases r.p01 with p | p
  · exact ⟨0, by omega, (r.non p).1, (r.non p).2, .inl rfl⟩
  · obtain ⟨n, o, nd, fm, tr, dv, w⟩ := r.lst p
    exact ⟨n, w.ev.mx, w.ev.c, w.ev.m, .inr p⟩
theorem CI.ev {h z} (r : CI h z) {t : Nat} (ht : t < h.2.1) : rr z t < h.2.1 := r.wf 0 t _ (r.ro t ht)
/-- at, in range or not -/
theorem sAt {h z iv av} (r : Rel h z iv av) (x : Int32) :
    (fS_at h z x = some (none, z) ∧ fM_has iv av x = some (0, iv, av)) ∨
    ∃ i n o nd fm tr dv, i < n ∧ x = nt i ∧ iv 6 = 1 ∧ LST h z iv av n o nd fm tr dv ∧ fS_at h z x = some (some (rr z i), z) ∧ fM_has iv av x = some (1, iv, av) := by
  obtain ⟨n, hn, e1, e2, e3⟩ := r.cnt
  unfold fS_at fM_has
  by_cases hx : x < 0
  · left; simp only [hx, if_true]; refine ⟨trivial, ?_⟩; split <;> rfl
  obtain ⟨i, hi, rfl⟩ := lt_nt hx
  simp only [hx, if_false, e1, e2]
  by_cases hni : n ≤ i
  · left
    simp (disch := omega) only [lit, ixF, nt_le, nt_lt, nt_eq, nt_cl, nt_add, nt_sub, bind_s, if_true, if_false, if_pos, if_neg, upd_s, k8, k16, k7, k4, s_r8, s_l7, s_l8, s_l16, a255, a127]
    refine ⟨trivial, ?_⟩; split <;> rfl
  · right
    have p : iv 6 = 1 := e3.resolve_left (by omega)
    obtain ⟨n', o, nd, fm, tr, dv, w⟩ := r.lst p
    have en : n' = n := nt_inj (w.ev.c.symm.trans e1) (by have := w.ev.mx; omega) (by omega)
    subst en
    refine ⟨i, n', o, nd, fm, tr, dv, by omega, rfl, p, w, ?_, ?_⟩
    · have hc := r.ci.ne; have hc2 := w.ev.ne
      simp (disch := omega) only [lit, ixF, nt_le, nt_lt, nt_eq, nt_cl, nt_add, nt_sub, bind_s, if_true, if_false, if_pos, if_neg, upd_s, k8, k16, k7, k4, s_r8, s_l7, s_l8, s_l16, a255, a127, false_or, r.ci.ro i (by omega)]
    · simp (disch := omega) only [lit, ixF, nt_le, nt_lt, nt_eq, nt_cl, nt_add, nt_sub, bind_s, if_true, if_false, if_pos, if_neg, upd_s, k8, k16, k7, k4, s_r8, s_l7, s_l8, s_l16, a255, a127, p]
