theorem CI.zr' {h z z'} (ci : CI h z) (e : zr z' = zr z) : CI h z' := by
  have er := rr_eq e
  refine ⟨ci.l0, ci.u0, ci.l1, ci.u1, ci.l2, ci.u2, ci.l3, ci.u3, ci.l4, ci.ne, ?_, ?_, ?_, ?_⟩
  · rw [e, er]; exact ci.ro
  · rw [e]; exact ci.rn
  · unfold wfz; rw [e]; exact ci.wf
  · rw [er]; exact ci.ij
theorem IN.fr {h z iv av n h' z' iv' av'} (r : IN h z iv av n) (e : zi z' 0 = zi z 0) (a : za z' 0 = za z 0) (l : h'.1 0 = h.1 0) (v : iv' 1 = iv 1) (w : av' 0 = av 0) : IN h' z' iv' av' n :=
  ⟨by rw [l]; exact r.cap, r.mx, e.trans r.c, v.trans r.m, by rw [a, w]; exact r.eq, by rw [w]; exact r.by'⟩
theorem OUT.fr {h z iv av n h' z' iv' av'} (r : OUT h z iv av n) (e : zi z' 1 = zi z 1) (a : za z' 1 = za z 1) (l : h'.1 1 = h.1 1) (v : iv' 12 = iv 12) (w : av' 11 = av 11) : OUT h' z' iv' av' n :=
  ⟨by rw [l]; exact r.cap, r.mx, e.trans r.c, v.trans r.m, by rw [a, w]; exact r.eq, by rw [w]; exact r.by'⟩
/-- the list changed, and nothing else -/
theorem Rel.lst' {h z iv av z' iv' av' n o nd fm tr dv} (r : Rel h z iv av) (p : iv 6 = 1) (ci : CI h z') (ei : ∀ k, k < 4 → zi z' k = zi z k) (ea : za z' = za z) (v : ∀ k, k ≠ 0 → k ≠ 10 → iv' k = iv k) (w0 : av' 0 = av 0) (w11 : av' 11 = av 11) (w : LST h z' iv' av' n o nd fm tr dv) : Rel h z' iv' av' := by
  refine ⟨ci, ?_, ?_, ?_, ?_, fun _ => ⟨n, o, nd, fm, tr, dv, w⟩, ?_⟩
  · obtain ⟨m, i⟩ := r.inp
    exact ⟨m, i.fr (ei 0 (by omega)) (by rw [ea]) rfl (v 1 (by decide) (by decide)) w0⟩
  · obtain ⟨m, i⟩ := r.out
    exact ⟨m, i.fr (ei 1 (by omega)) (by rw [ea]) rfl (v 12 (by decide) (by decide)) w11⟩
  · rw [ei 3 (by omega), v 6 (by decide) (by decide)]; exact r.pr
  · rw [v 6 (by decide) (by decide)]; exact r.p01
  · intro q; rw [v 6 (by decide) (by decide), p] at q; exact absurd q (by decide)
theorem r_grid {h z iv av} (r : Rel h z iv av) (x : Int32) :
    (∃ k v, (k = 1 ∨ k = 2) ∧ tD_grid h z x = some k ∧ fM_grid iv av x = some (v, upd iv 0 (nt k), av)) ∨
    ∃ v z' iv' av', fD_grid h z x = some (v, z') ∧ fM_grid iv av x = some (v, iv', av') ∧ iv' 0 = nt 0 ∧ Rel h z' iv' av' := by
  have skip : ∀ y b, (y = nt 1 ∨ iv 6 = 0) → b < 2147483648 → lM_grid_19 FU iv av x y 0 = jM_grid_67 iv av x y := by
    intro y b hy _
    rw [show FU = 999999 + 1 from rfl]; unfold lM_grid_19
    rcases hy with rfl | q
    · rw [if_neg (show ¬ nt 1 = 0 by decide)]; split
      · rfl
      · split <;> rfl
    · rw [if_pos q]; split <;> rfl
  unfold tD_grid fD_grid fM_grid jM_grid_11 jM_grid_16 tD_needList fD_needList
  rcases pres r with ⟨p, p'⟩ | ⟨p, p', n, o, nd, fm, tr, dv, w⟩
  · left
    refine ⟨1, nt 0, .inl rfl, by simp [p'], ?_⟩
    have s0 := skip (nt 0) 0 (.inr p) (by omega)
    have s1 := skip (nt 1) 0 (.inr p) (by omega)
    unfold jM_grid_67 jM_grid_80 at s0 s1
    simp (disch := omega) only [lit, ixF, nt_le, nt_lt, nt_eq, nt_cl, nt_add, nt_sub, bind_s, if_true, if_false, if_pos, if_neg, upd_s, k8, k16, k7, k4, s_r8, s_l7, s_l8, s_l16, a255, a127, p, m_fails] at s0 s1
    by_cases hx : x < nt 1
    · simp (disch := omega) only [lit, ixF, nt_le, nt_lt, nt_eq, nt_cl, nt_add, nt_sub, bind_s, if_true, if_false, if_pos, if_neg, upd_s, k8, k16, k7, k4, s_r8, s_l7, s_l8, s_l16, a255, a127, hx, s1]
    · by_cases hx2 : x ≤ nt 100000
      · simp (disch := omega) only [lit, ixF, nt_le, nt_lt, nt_eq, nt_cl, nt_add, nt_sub, bind_s, if_true, if_false, if_pos, if_neg, upd_s, k8, k16, k7, k4, s_r8, s_l7, s_l8, s_l16, a255, a127, hx, hx2, s0]
      · simp (disch := omega) only [lit, ixF, nt_le, nt_lt, nt_eq, nt_cl, nt_add, nt_sub, bind_s, if_true, if_false, if_pos, if_neg, upd_s, k8, k16, k7, k4, s_r8, s_l7, s_l8, s_l16, a255, a127, hx, hx2, s1]
  · have s1 := skip (nt 1) 0 (.inl rfl) (by omega)
    unfold jM_grid_67 jM_grid_80 at s1
    simp (disch := omega) only [lit, ixF, nt_le, nt_lt, nt_eq, nt_cl, nt_add, nt_sub, bind_s, if_true, if_false, if_pos, if_neg, upd_s, k8, k16, k7, k4, s_r8, s_l7, s_l8, s_l16, a255, a127, p, m_fails] at s1
    by_cases hx : x < nt 1
    · left; refine ⟨2, nt 0, .inr rfl, ?_, ?_⟩
      · simp (disch := omega) only [lit, ixF, nt_le, nt_lt, nt_eq, nt_cl, nt_add, nt_sub, bind_s, if_true, if_false, if_pos, if_neg, upd_s, k8, k16, k7, k4, s_r8, s_l7, s_l8, s_l16, a255, a127, p', hx]; simp
      · simp (disch := omega) only [lit, ixF, nt_le, nt_lt, nt_eq, nt_cl, nt_add, nt_sub, bind_s, if_true, if_false, if_pos, if_neg, upd_s, k8, k16, k7, k4, s_r8, s_l7, s_l8, s_l16, a255, a127, hx, s1]
    · obtain ⟨s, hs, rfl⟩ : ∃ i, i < 2147483648 ∧ x = nt i := lt_nt (fun q => hx (by
        rw [Int32.lt_iff_toInt_lt] at q ⊢
        have a : (0 : Int32).toInt = 0 := rfl
        have b : (nt 1).toInt = 1 := rfl
        omega))
      simp (disch := omega) only [lit, ixF, nt_le, nt_lt, nt_eq, nt_cl, nt_add, nt_sub, bind_s, if_true, if_false, if_pos, if_neg, upd_s, k8, k16, k7, k4, s_r8, s_l7, s_l8, s_l16, a255, a127] at hx
      by_cases hx2 : s ≤ 100000
      · have hn := w.ev.mx
        have et : ∀ e, e < n → av 1 e = nt (av 1 e).toNatClampNeg := fun e he => by
          obtain ⟨T, hT, q⟩ := (w.ok e he).tick
          have q : av 1 e = nt T := q
          rw [q, nt_cl (by omega)]
        have ht : ∀ e, e < n → (av 1 e).toNatClampNeg ≤ 268435455 := fun e he => by
          obtain ⟨T, hT, q⟩ := (w.ok e he).tick
          have q : av 1 e = nt T := q
          rw [q, nt_cl (by omega)]; exact hT
        have mono : ∀ e, e < n → nr (av 1 e).toNatClampNeg s ≤ nr (av 1 (o (n - 1))).toNatClampNeg s := fun e he => by
          obtain ⟨k, hk, rfl⟩ := surj_o w.ev.ol w.oi he
          apply nr_mono
          by_cases q : k = n - 1
          · subst q; exact Nat.le_refl _
          · have := w.so k (n - 1) (by omega) (by omega)
            rw [et _ (w.ev.ol k hk), et _ (w.ev.ol (n - 1) (by omega)), nt_le (by have := ht _ (w.ev.ol k hk); omega) (by have := ht _ (w.ev.ol (n - 1) (by omega)); omega)] at this
            exact this
        have scan := l_grid19 (iv := iv) (av := av) (n := n) (s := s) (tk := fun e => (av 1 e).toNatClampNeg) hn w.ev.m p (by omega) hx2 et ht n FU 0 (by omega) (by have := FUn (n := n + 1) (by omega); omega)
        have gr1 : ∃ G, G ≤ 268435455 ∧ fS_greatestTick h z = some (nt G, z) ∧ (n = 0 ∧ G = 0 ∨ 0 < n ∧ G = (av 1 (o (n - 1))).toNatClampNeg) := by
          rcases r_greatest r.ci w with ⟨a, b⟩ | ⟨a, b⟩
          · exact ⟨0, by omega, b, .inl ⟨a, rfl⟩⟩
          · exact ⟨(av 1 (o (n - 1))).toNatClampNeg, ht _ (w.ev.ol (n - 1) (by omega)), by rw [b, ← et _ (w.ev.ol (n - 1) (by omega))], .inr ⟨a, rfl⟩⟩
        obtain ⟨G, hG, gc, gg⟩ := gr1
        have ng := nr_le (t := G) (s := s)
        have cn := c_nearest (h := h) (z := z) hG (show 0 < s by omega) hx2
        by_cases big : nr G s ≤ 268435455
        · right
          have all : ∀ e, e < n → nr (av 1 e).toNatClampNeg s ≤ 268435455 := fun e he => by
            rcases gg with ⟨a, b⟩ | ⟨a, b⟩
            · omega
            · have := mono e he; rw [← b] at this; omega
          have scan2 : lM_grid_19 FU iv av (nt s) (nt 0) (nt 0) = jM_grid_67 iv av (nt s) (nt 0) := by
            rcases scan with ⟨k, _, a, b, _⟩ | ⟨_, a⟩
            · have := all k a; omega
            · exact a
          have w0 := w.thr (x := nt 0)
          obtain ⟨z1, A, A1, A2, A3, A4⟩ := l_round (h := h) (z0 := z) (n := n) (s := s) (tk := fun k => (av 1 (o k)).toNatClampNeg) r.ci w.ev.c w.ev.ne (by omega) hx2 (fun k hk => by rw [w.ev.eq k hk 0 (by omega)]; exact et _ (w.ev.ol k hk)) (fun k hk => ht _ (w.ev.ol k hk)) n FU 0 z (by omega) (FUn (by omega)) rfl rfl rfl (fun k f hk => by rw [if_neg (by omega)])
          obtain ⟨av1, B, B1, B2⟩ := l_grid94 (iv := upd iv 0 (nt 0)) (av0 := av) (n := n) (s := s) (tk := fun e => (av 1 e).toNatClampNeg) hn w0.ev.m (by omega) hx2 et ht n FU 0 av (by omega) (FUn (by omega)) (fun _ _ => rfl) (fun k hk => by rw [if_neg (by omega)])
          have ec : cnt (fun k => decide (nr (av 1 (o k)).toNatClampNeg s ≠ (av 1 (o k)).toNatClampNeg)) n = cnt (fun e => decide (nr (av 1 e).toNatClampNeg s ≠ (av 1 e).toNatClampNeg)) n := cnt_o w.ev.ol w.oi (fun e => decide (nr (av 1 e).toNatClampNeg s ≠ (av 1 e).toNatClampNeg))
          have er := rr_eq A3
          have U : LSU h z1 (upd iv 0 (nt 0)) av1 n o nd fm tr dv := by
            refine ⟨⟨hn, w.ev.ne, by rw [A1]; exact w.ev.c, w0.ev.m, ?_, w.ev.ol⟩, ⟨w.da.cap, w.da.mx, by rw [A1]; exact w.da.c, by rw [A2, B1 10 (by decide)]; exact w.da.eq, by rw [B1 10 (by decide)]; exact w.da.by'⟩, by rw [B1 8 (by decide)]; exact w.om, w.oi, w.fmx, by rw [A1]; exact w.fc, w0.fi, w.t1, w.tmx, by rw [A1]; exact w.tc, w0.ti, w.dmx, by rw [A1]; exact w.dc, w0.di, ?_, by rw [B1 7 (by decide)]; exact w.su⟩
            · intro k hk f hf
              rw [er, A4 k f hk]
              by_cases q : f = 0
              · subst q; rw [if_pos rfl, B2 _ (w.ev.ol k hk)]
              · rw [if_neg q, B1 (f + 1) (by omega)]; exact w.ev.eq k hk f hf
            · intro e he
              have := w.ok e he
              have q : ∀ f, f ≠ 0 → av1 (f + 1) e = av (f + 1) e := fun f hf => by rw [B1 (f + 1) (by omega)]
              refine ⟨⟨nr (av 1 e).toNatClampNeg s, all e he, B2 e he⟩, ?_, ?_⟩
              · obtain ⟨K, hK, eK⟩ := this.track
                exact ⟨K, hK, (q 1 (by decide)).trans eK⟩
              · have := this.kind
                simp only [← q 2 (by decide), ← q 3 (by decide), ← q 4 (by decide), ← q 5 (by decide), ← q 6 (by decide)] at this
                exact this
          obtain ⟨z2, av2, o2, C, D, E1, E2, E3, E4⟩ := r_sort (r.ci.zr' A3) U
          refine ⟨nt (cnt (fun e => decide (nr (av 1 e).toNatClampNeg s ≠ (av 1 e).toNatClampNeg)) n), z2, upd iv 0 (nt 0), av2, ?_, ?_, upd_s, ?_⟩
          · rw [ec] at A
            simp (disch := omega) only [lit, ixF, nt_le, nt_lt, nt_eq, nt_cl, nt_add, nt_sub, bind_s, if_true, if_false, if_pos, if_neg, upd_s, k8, k16, k7, k4, s_r8, s_l7, s_l8, s_l16, a255, a127, cnt_0] at A
            simp (disch := omega) only [lit, ixF, nt_le, nt_lt, nt_eq, nt_cl, nt_add, nt_sub, bind_s, if_true, if_false, if_pos, if_neg, upd_s, k8, k16, k7, k4, s_r8, s_l7, s_l8, s_l16, a255, a127, p', gc, cn, fS_roundTicks, A, C]
          · simp (disch := omega) only [lit, ixF, nt_le, nt_lt, nt_eq, nt_cl, nt_add, nt_sub, bind_s, if_true, if_false, if_pos, if_neg, upd_s, k8, k16, k7, k4, s_r8, s_l7, s_l8, s_l16, a255, a127, cnt_0] at B
            simp (disch := omega) only [lit, ixF, nt_le, nt_lt, nt_eq, nt_cl, nt_add, nt_sub, bind_s, if_true, if_false, if_pos, if_neg, upd_s, k8, k16, k7, k4, s_r8, s_l7, s_l8, s_l16, a255, a127, scan2, jM_grid_67, jM_grid_80, p, m_fails]
            rw [B, D]; rfl
          · refine Rel.lst' r p E2 (fun k _ => by rw [E1.i, A1]) (by rw [E1.a, A2]) (fun k hk _ => upd_n hk) (by rw [E3 0 (by decide), B1 0 (by decide)]) (by rw [E3 11 (by decide), B1 11 (by decide)]) E4
        · left; refine ⟨2, nt 0, .inr rfl, ?_, ?_⟩
          · simp (disch := omega) only [lit, ixF, nt_le, nt_lt, nt_eq, nt_cl, nt_add, nt_sub, bind_s, if_true, if_false, if_pos, if_neg, upd_s, k8, k16, k7, k4, s_r8, s_l7, s_l8, s_l16, a255, a127, p', gc, cn]; simp
          · have gn : 0 < n ∧ G = (av 1 (o (n - 1))).toNatClampNeg := by
              rcases gg with ⟨a, b⟩ | a
              · subst b; have : nr 0 s = 0 := by unfold nr; rw [Nat.zero_add, Nat.div_eq_of_lt (by omega), Nat.zero_mul]
                omega
              · exact a
            have scan2 : lM_grid_19 FU iv av (nt s) (nt 0) (nt 0) = jM_grid_67 iv av (nt s) (nt 1) := by
              rcases scan with ⟨k, _, _, _, a⟩ | ⟨a, _⟩
              · exact a
              · have := a _ (Nat.zero_le _) (w.ev.ol (n - 1) (by omega)); rw [← gn.2] at this; omega
            simp (disch := omega) only [lit, ixF, nt_le, nt_lt, nt_eq, nt_cl, nt_add, nt_sub, bind_s, if_true, if_false, if_pos, if_neg, upd_s, k8, k16, k7, k4, s_r8, s_l7, s_l8, s_l16, a255, a127, scan2, jM_grid_67, jM_grid_80, p, m_fails]
      · left; refine ⟨2, nt 0, .inr rfl, ?_, ?_⟩
        · simp (disch := omega) only [lit, ixF, nt_le, nt_lt, nt_eq, nt_cl, nt_add, nt_sub, bind_s, if_true, if_false, if_pos, if_neg, upd_s, k8, k16, k7, k4, s_r8, s_l7, s_l8, s_l16, a255, a127, p']; simp
        · simp (disch := omega) only [lit, ixF, nt_le, nt_lt, nt_eq, nt_cl, nt_add, nt_sub, bind_s, if_true, if_false, if_pos, if_neg, upd_s, k8, k16, k7, k4, s_r8, s_l7, s_l8, s_l16, a255, a127, s1]
