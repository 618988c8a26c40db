theorem c_num0 {h z} {pv : Nat → Int32} : fT_putNumber h z pv (nt 0) = (fB1_put h z (nt 0)).bind fun (h1, z1) => some (h1, z1, pv) := by
  obtain ⟨f, hf⟩ : ∃ f, FU = f + 10 := ⟨FU - 10, by have := FUn (n := 10) (by omega); omega⟩
  unfold fT_putNumber
  rw [hf, show (21 : Int32) = nt (7 * (2 + 1)) from rfl, l_skip (by omega) (by omega) (by decide), show 7 * 2 = 7 * (1 + 1) by omega, l_skip (by omega) (by omega) (by decide), show 7 * 1 = 7 * (0 + 1) by omega, l_skip (by omega) (by omega) (by decide), lT_putNumber_3]
  dsimp only
  rw [if_pos (by decide), show nt 0 &&& 127 = nt 0 from by decide]
  rfl
theorem m_end {iv : Nat → Int32} {av : Nat → Nat → Int32} : fM_puts iv av 16723712 4 = (fM_put iv av (nt 0)).bind fun (iv1, av1) => (fM_put iv1 av1 (nt 255)).bind fun (iv2, av2) => (fM_put iv2 av2 (nt 47)).bind fun (iv3, av3) => (fM_put iv3 av3 (nt 0)).bind fun (iv4, av4) => some (iv4, av4) := by
  obtain ⟨f, hf⟩ : ∃ f, FU = f + 10 := ⟨FU - 10, by have := FUn (n := 10) (by omega); omega⟩
  have s (k) (x : Int32) (c : ¬ x < 0) (v : Int32) (e : ((16723712 : Int32) >>> (((8 : Int32) * x) &&& 31)) &&& (255 : Int32) = v) (iv : Nat → Int32) (av : Nat → Nat → Int32) : lM_puts_4 (k + 1) iv av 16723712 x = (fM_put iv av v).bind fun (iv2, av2) => lM_puts_4 k iv2 av2 16723712 (x + (-1)) := by
    rw [lM_puts_4]; dsimp only; rw [if_neg c, e]
  unfold fM_puts
  rw [hf, show (4 : Int32) - 1 = 3 from rfl, s _ 3 (by decide) (nt 0) (by decide)]
  congr 1
theorem c_change {h z} {i M : Nat} {x : Int32} (c : zi z 1 = nt M) (hi : i < M) (hM : M ≤ h.1 1) (hM2 : M ≤ 16384) : fB1_change h z (nt i) x = some (zA z 1 i (x &&& 255)) := by
  unfold fB1_change
  simp (disch := omega) only [lit, ixF, nt_le, nt_lt, nt_eq, nt_cl, nt_add, nt_sub, bind_s, if_true, if_false, if_pos, if_neg, upd_s, k8, k16, k7, k4, s_r8, s_l7, s_l8, s_l16, a255, a127, c]
theorem m_patch {iv : Nat → Int32} {av : Nat → Nat → Int32} {P L : Nat} (hP : P + 4 ≤ 16384) (hL : L ≤ 16384) : lM_putTrack_273 FU iv av (nt P) (nt L) 0 = some (iv, up2 (up2 (up2 (up2 av 11 P (nt 0)) 11 (P + 1) (nt 0)) 11 (P + 2) (nt (L / 256))) 11 (P + 3) (nt (L % 256))) := by
  obtain ⟨f, hf⟩ : ∃ f, FU = f + 10 := ⟨FU - 10, by have := FUn (n := 10) (by omega); omega⟩
  have s (k i : Nat) (hi : i < 4) (v : Int32) (e : (nt L >>> (nt (8 * (3 - i)) &&& 31)) &&& (255 : Int32) = v) (iv : Nat → Int32) (av : Nat → Nat → Int32) : lM_putTrack_273 (k + 1) iv av (nt P) (nt L) (nt i) = lM_putTrack_273 k iv (up2 av 11 (P + i) v) (nt P) (nt L) (nt (i + 1)) := by
    rw [lM_putTrack_273]; dsimp only
    rw [show (4 : Int32) = nt 4 from rfl, if_neg (by rw [nt_le (by omega) (by omega)]; omega), show (8 : Int32) = nt 8 from rfl, show (3 : Int32) = nt 3 from rfl, nt_sub (by omega), nt_mul, e, nt_add, if_neg (ixN (by omega) (by omega)), nt_cl (by omega), show (1 : Int32) = nt 1 from rfl, nt_add]
  have v0 : (nt L >>> (nt (8 * (3 - 0)) &&& 31)) &&& (255 : Int32) = nt 0 := by
    rw [and31 (by omega), nt_shr (by omega) (by omega), lit, a255]; congr 1
    have : L / 2 ^ (8 * (3 - 0)) = 0 := Nat.div_eq_of_lt (by omega)
    rw [this]
  have v1 : (nt L >>> (nt (8 * (3 - 1)) &&& 31)) &&& (255 : Int32) = nt 0 := by
    rw [and31 (by omega), nt_shr (by omega) (by omega), lit, a255]; congr 1
    have : L / 2 ^ (8 * (3 - 1)) = 0 := Nat.div_eq_of_lt (by omega)
    rw [this]
  have v2 : (nt L >>> (nt (8 * (3 - 2)) &&& 31)) &&& (255 : Int32) = nt (L / 256) := by
    rw [and31 (by omega), nt_shr (by omega) (by omega), lit, a255]; congr 1
    omega
  have v3 : (nt L >>> (nt (8 * (3 - 3)) &&& 31)) &&& (255 : Int32) = nt (L % 256) := by
    rw [and31 (by omega), nt_shr (by omega) (by omega), lit, a255]; congr 1
    omega
  rw [hf, show (0 : Int32) = nt 0 from rfl, s _ 0 (by omega) _ v0, s _ 1 (by omega) _ v1, s _ 2 (by omega) _ v2, s _ 3 (by omega) _ v3, lM_putTrack_273]
  dsimp only
  rw [show (4 : Int32) = nt 4 from rfl, if_pos (by rw [nt_le (by omega) (by omega)]; omega), Nat.add_zero]
theorem CI.A {h z k i x} (ci : CI h z) : CI h (zA z k i x) := ci.zr' rfl
theorem j_patch {h0 z0 iv0 av0 h z iv av M} (r : WS h0 z0 iv0 av0 h z iv av M) (pv : Nat → Int32) {P : Nat} (hP : P + 4 ≤ M) (b0 : za z 1 P = nt 0) (b1 : za z 1 (P + 1) = nt 0) :
    ∃ z' av', jT_putTrack_125 h z pv (nt P) (nt (P + 4)) = some (h, z', pv) ∧ lM_putTrack_273 FU iv av (nt P) ((iv 12 - nt P) - 4) 0 = some (iv, av') ∧ WS h0 z0 iv0 av0 h z' iv av' M ∧ ∀ i, i < P → za z' 1 i = za z 1 i := by
  have hM := r.out.mx
  have hc := r.out.cap
  have hB : ∀ i, za (zA (zA z 1 (P + 2) (nt ((M - (P + 4)) / 256))) 1 (P + 3) (nt ((M - (P + 4)) % 256))) 1 i = if i = P + 3 then nt ((M - (P + 4)) % 256) else if i = P + 2 then nt ((M - (P + 4)) / 256) else za z 1 i := by
    intro i
    rw [za_A]
    by_cases q : i = P + 3
    · subst q; rw [up2_s, if_pos rfl]
    · rw [up2_n q, if_neg q, za_A]
      by_cases q : i = P + 2
      · subst q; rw [up2_s, if_pos rfl]
      · rw [up2_n q, if_neg q]
  have hA : ∀ i, up2 (up2 (up2 (up2 av 11 P (nt 0)) 11 (P + 1) (nt 0)) 11 (P + 2) (nt ((M - (P + 4)) / 256))) 11 (P + 3) (nt ((M - (P + 4)) % 256)) 11 i = if i = P + 3 then nt ((M - (P + 4)) % 256) else if i = P + 2 then nt ((M - (P + 4)) / 256) else if i = P + 1 then nt 0 else if i = P then nt 0 else av 11 i := by
    intro i
    by_cases q : i = P + 3
    · subst q; rw [up2_s, if_pos rfl]
    · rw [up2_n q, if_neg q]
      by_cases q : i = P + 2
      · subst q; rw [up2_s, if_pos rfl]
      · rw [up2_n q, if_neg q]
        by_cases q : i = P + 1
        · subst q; rw [up2_s, if_pos rfl]
        · rw [up2_n q, if_neg q]
          by_cases q : i = P
          · subst q; rw [up2_s, if_pos rfl]
          · rw [up2_n q, if_neg q]
  refine ⟨zA (zA z 1 (P + 2) (nt ((M - (P + 4)) / 256))) 1 (P + 3) (nt ((M - (P + 4)) % 256)), up2 (up2 (up2 (up2 av 11 P (nt 0)) 11 (P + 1) (nt 0)) 11 (P + 2) (nt ((M - (P + 4)) / 256))) 11 (P + 3) (nt ((M - (P + 4)) % 256)), ?_, ?_, ⟨r.ci.A.A, r.zr, r.ze, r.zi, fun k hk => ?_, r.en, r.hl, r.iv, fun k hk => ?_, ⟨r.out.cap, r.out.mx, r.out.c, r.out.m, fun i hi => ?_, fun i hi => ?_⟩⟩, fun i hi => ?_⟩
  · unfold jT_putTrack_125 fB1_size
    rw [bind_s]; dsimp only
    rw [r.out.c, nt_sub (by omega), show (2 : Int32) = nt 2 from rfl, show (3 : Int32) = nt 3 from rfl, show (8 : Int32) = nt 8 from rfl, show (31 : Int32) = nt 31 from rfl, k8, s_r8 (by omega), nt_add, nt_add, c_change r.out.c (by omega) hc hM, bind_s, c_change (M := M) (z := zA z 1 (P + 2) (nt ((M - (P + 4)) / 256) &&& 255)) r.out.c (by omega) hc hM, bind_s, lit, a255, a255, Nat.mod_eq_of_lt (a := (M - (P + 4)) / 256) (by omega)]
  · rw [r.out.m, nt_sub (by omega), show (4 : Int32) = nt 4 from rfl, nt_sub (by omega), show M - P - 4 = M - (P + 4) by omega, m_patch (by omega) (by omega)]
  · rw [za_A, up2_o hk, za_A, up2_o hk, r.za k hk]
  · rw [up2_o hk, up2_o hk, up2_o hk, up2_o hk, r.av k hk]
  · rw [hB, hA]
    by_cases q : i = P + 3
    · rw [if_pos q, if_pos q]
    rw [if_neg q, if_neg q]
    by_cases q : i = P + 2
    · rw [if_pos q, if_pos q]
    rw [if_neg q, if_neg q]
    by_cases q : i = P + 1
    · rw [if_pos q, q, b1]
    rw [if_neg q]
    by_cases q : i = P
    · rw [if_pos q, q, b0]
    rw [if_neg q, r.out.eq i hi]
  · rw [hA]
    split
    · exact ⟨_, by omega, rfl⟩
    split
    · exact ⟨_, by omega, rfl⟩
    split
    · exact ⟨0, by omega, rfl⟩
    split
    · exact ⟨0, by omega, rfl⟩
    exact r.out.by' i hi
  · rw [hB, if_neg (by omega), if_neg (by omega)]
/-- what a track takes -/
def sel (xc x1 x2 : Int32) (n : Nat) (av0 : Nat → Nat → Int32) (o : Nat → Nat) (S : Nat → Bool) : Prop :=
  (xc = -nt 1 ∧ x2 = nt 1 ∧ ∀ k, S k = true) ∨ (∃ t, t < 16 ∧ xc = nt t ∧ x1 = nt t ∧ x2 = nt 0 ∧ ∀ k, k < n → (S k = true ↔ av0 2 (o k) = nt t))
def cst (av0 : Nat → Nat → Int32) (o : Nat → Nat) (S : Nat → Bool) (k : Nat) : Nat := if S k = true then 8 + (av0 7 (o k)).toNatClampNeg else 0
theorem sm_mono {g : Nat → Nat} {a b : Nat} (h : a ≤ b) : sm g a ≤ sm g b := by
  obtain ⟨d, rfl⟩ : ∃ d, b = a + d := ⟨b - a, by omega⟩
  clear h
  induction d with
  | zero => exact Nat.le_refl _
  | succ d ih =>
    have := sm_s g (a + d)
    rw [Nat.add_assoc] at this
    omega
theorem at_S {h z} {n i : Nat} (ci : CI h z) (c : zi z 7 = nt n) (hi : i < n) (hn : n ≤ h.2.1) : fS_at h z (nt i) = some (some (rr z i), z) := by
  have := ci.ne; have := ci.u3
  unfold fS_at
  simp (disch := omega) only [lit, ixF, nt_le, nt_lt, nt_eq, nt_cl, nt_add, nt_sub, bind_s, if_true, if_false, if_pos, if_neg, upd_s, k8, k16, k7, k4, s_r8, s_l7, s_l8, s_l16, a255, a127, c, false_or, ci.ro i (by omega)]
theorem l_track {h0 z0 iv0 av0 n o nd fm tr dv} (w : LST h0 z0 iv0 av0 n o nd fm tr dv) (ci0 : CI h0 z0) (xc x1 x2 x3 : Int32) (S : Nat → Bool) (hS : sel xc x1 x2 n av0 o S) (P : Nat) :
    ∀ m fuel fuel' i h z pv iv av N T0 x6, i + m = n → m < fuel → m < fuel' → WS h0 z0 iv0 av0 h z iv av N → pv 0 = x3 → pv 1 = nt T0 → T0 ≤ 268435455 → (∀ k, i ≤ k → k < n → nt T0 ≤ av0 1 (o k)) → Run (pv 2) x6 → N + sm (cst av0 o S) n ≤ sm (cst av0 o S) i + 16350 →
    ∃ h' z' iv' av' N' pv', lT_putTrack_42 fuel h z pv xc (nt P) (nt (P + 4)) (nt i) = ((fT_putNumber h' z' pv' (0 : Int32)).bind fun (hh2, z2, pv2) => jT_putTrack_101 hh2 z2 pv2 (nt P) (nt (P + 4))) ∧
      lM_putTrack_28 fuel' iv av x1 x2 x3 (nt P) (nt T0) x6 (nt i) = ((fM_puts iv' av' (16723712 : Int32) (4 : Int32)).bind fun (iv2, av2) => lM_putTrack_273 FU iv2 av2 (nt P) (((iv2 12) - nt P) - (4 : Int32)) (0 : Int32)) ∧
      pv' 0 = x3 ∧ WN h0 z0 iv0 av0 h z N h' z' iv' av' N' ∧ N' + sm (cst av0 o S) i ≤ N + sm (cst av0 o S) n := by
  have hn := w.ev.mx
  have hnd := w.da.mx
  intro m
  induction m with
  | zero =>
    intro fuel fuel' i h z pv iv av N T0 x6 hi hf hf' r p0 p1 hT hso ru hN
    obtain ⟨f, rfl⟩ : ∃ f, fuel = f + 1 := ⟨fuel - 1, by omega⟩
    obtain ⟨f', rfl⟩ : ∃ f, fuel' = f + 1 := ⟨fuel' - 1, by omega⟩
    obtain rfl : i = n := by omega
    refine ⟨h, z, iv, av, N, pv, ?_, ?_, p0, r.refl, by omega⟩
    · rw [lT_putTrack_42]; dsimp only
      rw [r.zi 7 (by decide), w.ev.c, if_pos (by rw [nt_le (by omega) (by omega)]; omega)]
    · rw [lM_putTrack_28]; dsimp only
      rw [r.iv 10 (by decide), w.ev.m, if_pos (by rw [nt_le (by omega) (by omega)]; omega)]
  | succ m ih =>
    intro fuel fuel' i h z pv iv av N T0 x6 hi hf hf' r p0 p1 hT hso ru hN
    obtain ⟨f, rfl⟩ : ∃ f, fuel = f + 1 := ⟨fuel - 1, by omega⟩
    obtain ⟨f', rfl⟩ : ∃ f, fuel' = f + 1 := ⟨fuel' - 1, by omega⟩
    have he := w.ev.ol i (by omega)
    have hne := w.ev.ne
    have ren := r.en
    have rze : rr z i = rr z0 i := by rw [rr_eq r.zr]
    have hj : rr z0 i < h0.2.1 := ci0.ev (by omega)
    have ez : ∀ f, f < 7 → ze z0 (rr z0 i) f = av0 (f + 1) (o i) := w.ev.eq i (by omega)
    have z1 := ez 1 (by omega)
    simp only [Nat.reduceAdd] at z1
    have cs : sm (cst av0 o S) (i + 1) = sm (cst av0 o S) i + cst av0 o S i := sm_s _ _
    have cm : sm (cst av0 o S) (i + 1) ≤ sm (cst av0 o S) n := sm_mono (by omega)
    have A := at_S (h := h) (z := z) (i := i) (n := n) r.ci ((r.zi 7 (by decide)).trans w.ev.c) (by omega) (by omega)
    rw [rze] at A
    have hom : av 8 i = nt (o i) := by rw [r.av 8 (by decide), w.om i (by omega)]
    have unT : lT_putTrack_42 (f + 1) h z pv xc (nt P) (nt (P + 4)) (nt i) = if xc = (-1 : Int32) then (jT_putTrack_84 (lT_putTrack_42 f) h z pv xc (nt P) (nt (P + 4)) (nt i) (some (rr z0 i))) else (if av0 2 (o i) = xc then (jT_putTrack_84 (lT_putTrack_42 f) h z pv xc (nt P) (nt (P + 4)) (nt i) (some (rr z0 i))) else (jT_putTrack_90 (lT_putTrack_42 f) h z pv xc (nt P) (nt (P + 4)) (nt i))) := by
      rw [lT_putTrack_42]; dsimp only
      rw [r.zi 7 (by decide), w.ev.c, if_neg (by rw [nt_le (by omega) (by omega)]; omega), A, bind_s]; dsimp only
      rw [if_neg (by simp), bind_s, if_neg (show ¬ h.2.1 ≤ rr z0 i by omega), r.ze, z1]
    have unM : lM_putTrack_28 (f' + 1) iv av x1 x2 x3 (nt P) (nt T0) x6 (nt i) = if x2 = 0 then (if av0 2 (o i) = x1 then (jM_putTrack_64 (lM_putTrack_28 f') iv av x1 x2 x3 (nt P) (nt T0) x6 (nt i) (nt (o i))) else (jM_putTrack_246 (lM_putTrack_28 f') iv av x1 x2 x3 (nt P) (nt T0) x6 (nt i))) else (jM_putTrack_64 (lM_putTrack_28 f') iv av x1 x2 x3 (nt P) (nt T0) x6 (nt i) (nt (o i))) := by
      rw [lM_putTrack_28]; dsimp only
      rw [r.iv 10 (by decide), w.ev.m, if_neg (by rw [nt_le (by omega) (by omega)]; omega), if_neg (ixN (by omega) (by omega)), nt_cl (by omega), hom, if_neg (ixN (by omega) (by omega)), nt_cl (by omega), r.av 2 (by decide)]
    rw [unT, unM]
    by_cases hs : S i = true
    · have cv : cst av0 o S i = 8 + (av0 7 (o i)).toNatClampNeg := by unfold cst; rw [if_pos hs]
      obtain ⟨h1, z1', iv1, av1, N1, pv1, y0, a, b, ru1, q0, q1, c, d⟩ := t_event (by omega) hj w.da ez (lM_putTrack_28 f') x1 x2 x3 (nt P) (nt i) r pv (w.ok _ he) x6 p1 p0 (hso i (by omega) (by omega)) hT ru (by omega)
      obtain ⟨T, hT1, eT⟩ := (w.ok _ he).tick
      simp only [Nat.zero_add] at eT
      obtain ⟨h2, z2, iv2, av2, N2, pv2, a2, b2, q2, c2, d2⟩ := ih f f' (i + 1) h1 z1' pv1 iv1 av1 N1 T y0 (by omega) (by omega) (by omega) c.w q0 (q1.trans eT) hT1 (fun k h1 h2 => by rw [← eT]; exact w.so i k (by omega) h2) ru1 (by omega)
      refine ⟨h2, z2, iv2, av2, N2, pv2, ?_, ?_, q2, c.trans c2, by omega⟩
      · have : ∀ (C D : Prop) (iC : Decidable C) (iD : Decidable D) (E F : Option (cH × cZ × (Nat → Int32))), C ∨ D → (if C then E else if D then E else F) = E := by
          intro C D iC iD E F hh
          by_cases hC : C
          · rw [if_pos hC]
          · rw [if_neg hC, if_pos (hh.resolve_left hC)]
        rw [this]
        · unfold jT_putTrack_84 jT_putTrack_90
          rw [a, bind_s]; dsimp only
          rw [show (1 : Int32) = nt 1 from rfl, nt_add]; exact a2
        · rcases hS with ⟨e, _⟩ | ⟨t, ht, e1, e2, e3, e4⟩
          · exact .inl e
          · exact .inr (((e4 i (by omega)).mp hs).trans e1.symm)
      · have : (if x2 = 0 then (if av0 2 (o i) = x1 then (jM_putTrack_64 (lM_putTrack_28 f') iv av x1 x2 x3 (nt P) (nt T0) x6 (nt i) (nt (o i))) else (jM_putTrack_246 (lM_putTrack_28 f') iv av x1 x2 x3 (nt P) (nt T0) x6 (nt i))) else (jM_putTrack_64 (lM_putTrack_28 f') iv av x1 x2 x3 (nt P) (nt T0) x6 (nt i) (nt (o i)))) = (jM_putTrack_64 (lM_putTrack_28 f') iv av x1 x2 x3 (nt P) (nt T0) x6 (nt i) (nt (o i))) := by
          rcases hS with ⟨_, e, _⟩ | ⟨t, ht, e1, e2, e3, e4⟩
          · rw [if_neg (by rw [e]; decide)]
          · rw [if_pos (show x2 = 0 from e3), if_pos (((e4 i (by omega)).mp hs).trans e2.symm)]
        rw [this, b, eT, show (1 : Int32) = nt 1 from rfl, nt_add]; exact b2
    · have cv : cst av0 o S i = 0 := by unfold cst; rw [if_neg hs]
      rcases hS with ⟨_, _, e⟩ | ⟨t, ht, e1, e2, e3, e4⟩
      · exact absurd (e i) hs
      have ne : ¬ av0 2 (o i) = nt t := fun q => hs ((e4 i (by omega)).mpr q)
      obtain ⟨h2, z2, iv2, av2, N2, pv2, a2, b2, q2, c2, d2⟩ := ih f f' (i + 1) h z pv iv av N T0 x6 (by omega) (by omega) (by omega) r p0 p1 hT (fun k h1 h2 => hso k (by omega) h2) ru (by omega)
      refine ⟨h2, z2, iv2, av2, N2, pv2, ?_, ?_, q2, c2, by omega⟩
      · rw [if_neg, if_neg (by rw [e1]; exact ne)]
        · unfold jT_putTrack_90
          rw [show (1 : Int32) = nt 1 from rfl, nt_add]; exact a2
        · rw [e1, show (1 : Int32) = nt 1 from rfl, ntm1 (by omega)]; simp
      · rw [if_pos (show x2 = 0 from e3), if_neg (by rw [e2]; exact ne)]
        unfold jM_putTrack_246
        rw [show (1 : Int32) = nt 1 from rfl, nt_add]; exact b2
theorem shr0 (k : Int32) : ((0 : Int32) >>> k) &&& 255 = nt 0 := by
  rw [Int32.zero_shiftRight]; decide
theorem j_track {h0 z0 iv0 av0 n o nd fm tr dv} (w : LST h0 z0 iv0 av0 n o nd fm tr dv) (ci0 : CI h0 z0) (xc x1 x2 x3 : Int32) (S : Nat → Bool) (hS : sel xc x1 x2 n av0 o S) {h z pv iv av N} (r : WS h0 z0 iv0 av0 h z iv av N) (p0 : pv 0 = x3) (hN : N + 8 + sm (cst av0 o S) n ≤ 16350) :
    ∃ h' z' iv' av' N' pv', fT_putTrack h z pv xc = some (h', z', pv') ∧ fM_putTrack iv av x1 x2 x3 = some (iv', av') ∧ pv' 0 = x3 ∧ WN h0 z0 iv0 av0 h z N h' z' iv' av' N' ∧ N' ≤ N + 12 + sm (cst av0 o S) n := by
  obtain ⟨h1, z1, iv1, av1, a1, b1, c1⟩ := j_fixed r (upd (upd pv 1 (0 : Int32)) 2 (-1 : Int32)) 1297379947 4 (by omega) (by omega)
  obtain ⟨h2, z2, iv2, av2, a2, b2, c2, d2⟩ := j_fixed' c1.w (upd (upd pv 1 (0 : Int32)) 2 (-1 : Int32)) 0 4 (by omega) (by omega)
  have hn := w.ev.mx
  obtain ⟨h3, z3, iv3, av3, N3, pv3, a3, b3, p3, c3, d3⟩ := l_track w ci0 xc x1 x2 x3 S hS (N + 4) n FU FU 0 h2 z2 (upd (upd pv 1 (0 : Int32)) 2 (-1 : Int32)) iv2 av2 (N + 4 + 4) 0 (nt 0) (by omega) (FUn (by omega)) (FUn (by omega)) c2.w (by rw [upd_n (by decide), upd_n (by decide), p0]) (by rw [upd_n (by decide), upd_s]; rfl) (by omega) (fun k _ hk => by
    obtain ⟨T, hT, eT⟩ := (w.ok _ (w.ev.ol k hk)).tick
    simp only [Nat.zero_add] at eT
    rw [eT, nt_le (by omega) (by omega)]; omega) (by rw [upd_s]; exact .inl ⟨rfl, rfl⟩) (by rw [sm_0]; omega)
  rw [sm_0] at d3
  obtain ⟨h4, z4, iv4, av4, a4, b4, c4⟩ := j_put c3.w (by omega) (x := nt 0) (v := nt 0) (by decide)
  obtain ⟨h5, z5, iv5, av5, a5, b5, c5⟩ := j_put c4.w (by omega) (x := nt 255) (v := nt 255) (by decide)
  obtain ⟨h6, z6, iv6, av6, a6, b6, c6⟩ := j_put c5.w (by omega) (x := nt 47) (v := nt 47) (by decide)
  obtain ⟨h7, z7, iv7, av7, a7, b7, c7⟩ := j_put c6.w (by omega) (x := nt 0) (v := nt 0) (by decide)
  have C := c4.trans (c5.trans (c6.trans c7))
  have C3 := c3.trans C
  have le3 := c3.le
  obtain ⟨z8, av8, a8, b8, c8, d8⟩ := j_patch (P := N + 4) c7.w pv3 (by omega) (by
    rw [C3.o (N + 4) (by omega)]
    obtain ⟨k, e⟩ := d2 (N + 4) (by omega) (by omega)
    rw [e, shr0]) (by
    rw [C3.o (N + 4 + 1) (by omega)]
    obtain ⟨k, e⟩ := d2 (N + 4 + 1) (by omega) (by omega)
    rw [e, shr0])
  have ALL := c1.trans (c2.trans C3)
  refine ⟨h7, z8, iv7, av8, _, pv3, ?_, ?_, p3, ⟨c8, ALL.g, fun i hi => ?_, ALL.le⟩, by omega⟩
  · unfold fT_putTrack jT_putTrack_17 jT_putTrack_31 fB1_size
    rw [show (4 : Int32) = nt 4 from rfl, a1, bind_s]; dsimp only
    rw [bind_s]; dsimp only
    rw [a2, bind_s]; dsimp only
    rw [bind_s]; dsimp only
    rw [c1.w.out.c, c2.w.out.c, show (0 : Int32) = nt 0 from rfl]
    refine a3.trans ?_
    rw [show (0 : Int32) = nt 0 from rfl, c_num0, a4, bind_s]; dsimp only
    rw [bind_s]; dsimp only
    unfold jT_putTrack_101 jT_putTrack_111 jT_putTrack_120
    rw [show (255 : Int32) = nt 255 from rfl, a5, bind_s]; dsimp only
    rw [show (47 : Int32) = nt 47 from rfl, a6, bind_s]; dsimp only
    rw [show (0 : Int32) = nt 0 from rfl, c_num0, a7, bind_s]; dsimp only
    rw [bind_s]; exact a8
  · unfold fM_putTrack
    rw [show (4 : Int32) = nt 4 from rfl, b1, bind_s]; dsimp only
    rw [b2, bind_s]; dsimp only
    rw [c1.w.out.m, show (0 : Int32) = nt 0 from rfl]
    refine b3.trans ?_
    rw [m_end, b4, bind_s]; dsimp only
    rw [b5, bind_s]; dsimp only
    rw [b6, bind_s]; dsimp only
    rw [b7, bind_s]; dsimp only
    rw [bind_s]; exact b8
  · rw [d8 i (by omega), ALL.o i hi]
