theorem l_print {h0 z0 iv0 av0 n o nd fm tr dv} (w : LST h0 z0 iv0 av0 n o nd fm tr dv) (ci0 : CI h0 z0) {f : Nat} (hf : f ≤ 2) (x2 : Int32) {Q : Nat} (hq : (f = 0 ∧ Q = 1) ∨ (0 < f ∧ Q = tr)) (S : Nat → Nat → Bool) (hS : ∀ t, t < Q → sel (if f = 0 then -nt 1 else nt t) (nt t) (if f = 0 then nt 1 else nt 0) n av0 o (S t)) (G : Nat → Nat) (hG : ∀ t, t < Q → G (t + 1) = G t + sm (cst av0 o (S t)) n) (hG2 : ∀ t, t ≤ Q → G t ≤ 16000) :
    ∀ m fuel fuel' t h z pv iv av N, t + m = Q → m < fuel → m < fuel' → WS h0 z0 iv0 av0 h z iv av N → pv 0 = x2 → N ≤ 14 + 12 * t + G t →
    ∃ h' z' iv' av' N' pv', lT_print_63 fuel h z pv (nt f) (nt Q) (nt t) = some (h', z', pv') ∧ lM_write_88 fuel' iv av (nt f) x2 (nt t) = some (nt N', iv', av') ∧ WN h0 z0 iv0 av0 h z N h' z' iv' av' N' := by
  have htr := w.tmx
  have hQ : Q ≤ 16 := by omega
  have U : ∀ fuel' (iv : Nat → Int32) (av : Nat → Nat → Int32) t, iv 8 = nt tr → lM_write_88 (fuel' + 1) iv av (nt f) x2 (nt t) = if nt Q ≤ nt t then (some (iv 12, iv, av)) else (jM_write_115 (lM_write_88 fuel') iv av (nt f) x2 (nt t) (nt t) (if f = 0 then nt 1 else nt 0)) := by
    intro fuel' iv av t e8
    rw [lM_write_88]; dsimp only
    unfold jM_write_101
    rcases hq with ⟨q, q'⟩ | ⟨q, q'⟩
    · subst q; subst q'
      rw [if_pos (by rfl), if_pos (show nt 0 = 0 from rfl), if_pos rfl]; rfl
    · have : ¬ nt f = 0 := by rw [lit, nt_eq (by omega) (by omega)]; omega
      rw [if_neg this, if_neg this, if_neg (show ¬ f = 0 by omega), e8, q']; rfl
  intro m
  induction m with
  | zero =>
    intro fuel fuel' t h z pv iv av N ht hfu hfu' r p0 hN
    obtain ⟨k, rfl⟩ : ∃ k, fuel = k + 1 := ⟨fuel - 1, by omega⟩
    obtain ⟨k', rfl⟩ : ∃ k, fuel' = k + 1 := ⟨fuel' - 1, by omega⟩
    obtain rfl : t = Q := by omega
    refine ⟨h, z, iv, av, N, pv, ?_, ?_, r.refl⟩
    · rw [lT_print_63]; dsimp only
      rw [if_pos (by rw [nt_le (by omega) (by omega)]; omega)]
    · rw [U k' iv av t ((r.iv 8 (by decide)).trans w.ti), if_pos (by rw [nt_le (by omega) (by omega)]; omega), r.out.m]
  | succ m ih =>
    intro fuel fuel' t h z pv iv av N ht hfu hfu' r p0 hN
    obtain ⟨k, rfl⟩ : ∃ k, fuel = k + 1 := ⟨fuel - 1, by omega⟩
    obtain ⟨k', rfl⟩ : ∃ k, fuel' = k + 1 := ⟨fuel' - 1, by omega⟩
    have g1 := hG t (by omega)
    have g2 := hG2 (t + 1) (by omega)
    obtain ⟨h1, z1, iv1, av1, N1, pv1, a, b, p1, c, d⟩ := j_track w ci0 _ (nt t) _ x2 (S t) (hS t (by omega)) r p0 (by omega)
    obtain ⟨h2, z2, iv2, av2, N2, pv2, a2, b2, c2⟩ := ih k k' (t + 1) h1 z1 pv1 iv1 av1 N1 (by omega) (by omega) (by omega) c.w p1 (by omega)
    refine ⟨h2, z2, iv2, av2, N2, pv2, ?_, ?_, c.trans c2⟩
    · rw [lT_print_63]; dsimp only
      rw [if_neg (by rw [nt_le (by omega) (by omega)]; omega)]
      have : (if nt f = 0 then (jT_print_78 (lT_print_63 k) h z pv (nt f) (nt Q) (nt t) (-1 : Int32)) else (jT_print_78 (lT_print_63 k) h z pv (nt f) (nt Q) (nt t) (nt t))) = jT_print_78 (lT_print_63 k) h z pv (nt f) (nt Q) (nt t) (if f = 0 then -nt 1 else nt t) := by
        by_cases q : f = 0
        · subst q; rw [if_pos (show nt 0 = 0 from rfl), if_pos rfl]; rfl
        · rw [if_neg (by rw [lit, nt_eq (by omega) (by omega)]; omega), if_neg q]
      rw [this]
      unfold jT_print_78 jT_print_81
      rw [a, bind_s]; dsimp only
      rw [show (1 : Int32) = nt 1 from rfl, nt_add]; exact a2
    · rw [U k' iv av t ((r.iv 8 (by decide)).trans w.ti), if_neg (by rw [nt_le (by omega) (by omega)]; omega)]
      unfold jM_write_115
      rw [b, bind_s]; dsimp only
      rw [show (1 : Int32) = nt 1 from rfl, nt_add]; exact b2
theorem CI.C {h z a b} (ci : CI h z) : CI (hC h a b) z := ci
theorem CI.U {h z k x} (ci : CI h z) : CI h (zU z k x) := ci.zr' rfl
theorem sm_all {n : Nat} {av : Nat → Nat → Int32} {o : Nat → Nat} {nd : Nat} (ol : ∀ k, k < n → o k < n) (oi : ∀ k k', k < n → k' < n → o k = o k' → k = k') (hn : n ≤ 1000) (hd : nd ≤ 8000) (su : ((List.range n).map (fun e => (av 7 e).toNatClampNeg)).sum ≤ nd) : sm (fun k => 8 + (av 7 (o k)).toNatClampNeg) n ≤ 16000 := by
  rw [sm_add (g := fun _ => 8) (g' := fun k => (av 7 (o k)).toNatClampNeg), sm_c, sm_o ol oi (fun e => (av 7 e).toNatClampNeg)]
  have : sm (fun e => (av 7 e).toNatClampNeg) n ≤ nd := su
  omega
theorem r_print {h0 z0 iv0 av0 n o nd fm tr dv} (w : LST h0 z0 iv0 av0 n o nd fm tr dv) (r : WS h0 z0 iv0 av0 h0 z0 iv0 av0 0) {f : Nat} (hf : f ≤ 2) (x2 : Int32) {pv : Nat → Int32} (p0 : pv 0 = x2) {Q : Nat} (hq : (f = 0 ∧ Q = 1) ∨ (0 < f ∧ Q = tr)) :
    ∃ h' z' iv' av' N' pv', (fT_putFixed h0 z0 pv (1297377380 : Int32) (4 : Int32)).bind (fun (hh2, z2, pv2) => jT_print_30 hh2 z2 pv2 (nt f) (nt Q)) = some (h', z', pv') ∧
      ((fM_puts iv0 av0 (1297377380 : Int32) (4 : Int32)).bind fun (iv3, av3) => (fM_puts iv3 av3 (6 : Int32) (4 : Int32)).bind fun (iv4, av4) => (fM_puts iv4 av4 (nt f) (2 : Int32)).bind fun (iv5, av5) => if nt f = 0 then (jM_write_73 iv5 av5 (nt f) x2 (1 : Int32)) else (jM_write_73 iv5 av5 (nt f) x2 (iv5 8))) = some (nt N', iv', av') ∧ WN h0 z0 iv0 av0 h0 z0 0 h' z' iv' av' N' := by
  have ci0 := r.ci
  have hn := w.ev.mx
  have htr := w.tmx
  have hall := sm_all w.ev.ol w.oi hn w.da.mx w.su
  obtain ⟨h1, z1, iv1, av1, a1, b1, c1⟩ := j_fixed r pv 1297377380 4 (by omega) (by omega)
  obtain ⟨h2, z2, iv2, av2, a2, b2, c2⟩ := j_fixed c1.w pv 6 4 (by omega) (by omega)
  obtain ⟨h3, z3, iv3, av3, a3, b3, c3⟩ := j_fixed c2.w pv (nt f) 2 (by omega) (by omega)
  obtain ⟨h4, z4, iv4, av4, a4, b4, c4⟩ := j_fixed c3.w pv (nt Q) 2 (by omega) (by omega)
  obtain ⟨h5, z5, iv5, av5, a5, b5, c5⟩ := j_fixed c4.w pv (nt dv) 2 (by omega) (by omega)
  have tk : ∀ k, k < n → ∃ K, K < tr ∧ av0 2 (o k) = nt K := fun k hk => (w.ok _ (w.ev.ol k hk)).track
  have key : ∃ (S : Nat → Nat → Bool) (G : Nat → Nat), (∀ t, t < Q → sel (if f = 0 then -nt 1 else nt t) (nt t) (if f = 0 then nt 1 else nt 0) n av0 o (S t)) ∧ (∀ t, t < Q → G (t + 1) = G t + sm (cst av0 o (S t)) n) ∧ (∀ t, t ≤ Q → G t ≤ 16000) := by
    rcases hq with ⟨q, q'⟩ | ⟨q, q'⟩
    · refine ⟨fun _ _ => true, fun t => if t = 0 then 0 else sm (fun k => 8 + (av0 7 (o k)).toNatClampNeg) n, fun t ht => .inl ⟨by rw [if_pos q], by rw [if_pos q], fun _ => rfl⟩, fun t ht => ?_, fun t ht => ?_⟩
      · obtain rfl : t = 0 := by omega
        show (if 0 + 1 = 0 then 0 else _) = (if 0 = 0 then 0 else _) + _
        rw [if_neg (by omega), if_pos rfl, Nat.zero_add]
        exact sm_eq' fun k hk => by unfold cst; rw [if_pos rfl]
      · show (if t = 0 then 0 else _) ≤ _
        split
        · omega
        · exact hall
    · refine ⟨fun t k => decide (av0 2 (o k) = nt t), fun t => sm (fun k => if (av0 2 (o k)).toNatClampNeg < t then 8 + (av0 7 (o k)).toNatClampNeg else 0) n, fun t ht => .inr ⟨t, by omega, by rw [if_neg (by omega)], rfl, by rw [if_neg (by omega)], fun k hk => by simp⟩, fun t ht => ?_, fun t ht => ?_⟩
      · rw [← sm_add]
        refine sm_eq' fun k hk => ?_
        obtain ⟨K, hK, e⟩ := tk k hk
        have ek : (av0 2 (o k)).toNatClampNeg = K := by rw [e, nt_cl (by omega)]
        unfold cst
        by_cases q : K = t
        · subst q
          rw [if_pos (show (av0 2 (o k)).toNatClampNeg < K + 1 by omega), if_neg (show ¬ (av0 2 (o k)).toNatClampNeg < K by omega), if_pos (show decide (av0 2 (o k) = nt K) = true by simp [e]), Nat.zero_add]
        · have : ¬ (decide (av0 2 (o k) = nt t) = true) := by rw [decide_eq_true_eq, e, nt_eq (by omega) (by omega)]; exact q
          rw [if_neg this]
          by_cases q2 : K < t
          · rw [if_pos (show (av0 2 (o k)).toNatClampNeg < t + 1 by omega), if_pos (show (av0 2 (o k)).toNatClampNeg < t by omega)]; rfl
          · rw [if_neg (show ¬ (av0 2 (o k)).toNatClampNeg < t + 1 by omega), if_neg (show ¬ (av0 2 (o k)).toNatClampNeg < t by omega)]
      · exact Nat.le_trans (sm_le fun k hk => by split <;> omega) hall
  obtain ⟨S, G, k1, k2, k3⟩ := key
  obtain ⟨h6, z6, iv6, av6, N6, pv6, a6, b6, c6⟩ := l_print w ci0 hf x2 hq S k1 G k2 k3 Q FU FU 0 h5 z5 pv iv5 av5 _ (by omega) (FUn (by omega)) (FUn (by omega)) c5.w p0 (by omega)
  refine ⟨h6, z6, iv6, av6, N6, pv6, ?_, ?_, (c1.trans (c2.trans (c3.trans (c4.trans c5)))).trans c6⟩
  · rw [show (4 : Int32) = nt 4 from rfl, a1, bind_s]; dsimp only
    unfold jT_print_30 jT_print_37 jT_print_43 jT_print_49 jT_print_61
    rw [show (4 : Int32) = nt 4 from rfl, a2, bind_s]; dsimp only
    rw [show (2 : Int32) = nt 2 from rfl, a3, bind_s]; dsimp only
    rw [a4, bind_s]; dsimp only
    rw [c4.w.zi 6 (by decide), w.dc, a5, bind_s]; exact a6
  · rw [show (4 : Int32) = nt 4 from rfl, b1, bind_s]; dsimp only
    rw [b2, bind_s]; dsimp only
    rw [show (2 : Int32) = nt 2 from rfl, b3, bind_s]; dsimp only
    have : (if nt f = 0 then (jM_write_73 iv3 av3 (nt f) x2 (1 : Int32)) else (jM_write_73 iv3 av3 (nt f) x2 (iv3 8))) = jM_write_73 iv3 av3 (nt f) x2 (nt Q) := by
      rcases hq with ⟨q, q'⟩ | ⟨q, q'⟩
      · rw [if_pos (by rw [q]; rfl), q']; rfl
      · rw [if_neg (by rw [lit, nt_eq (by omega) (by omega)]; omega), c3.w.iv 8 (by decide), w.ti, q']
    rw [this]
    unfold jM_write_73
    rw [show (2 : Int32) = nt 2 from rfl, b4, bind_s]; dsimp only
    rw [c4.w.iv 9 (by decide), w.di, b5, bind_s]; exact b6
theorem r_write {h z iv av} (r : Rel h z iv av) (x1 x2 : Int32) (hx : x2 = 0 ∨ x2 = 1) :
    (∃ k v, (k = 1 ∨ k = 2) ∧ tD_write h z x1 x2 = some k ∧ fM_write iv av x1 x2 = some (v, upd iv 0 (nt k), av)) ∨
    ∃ v h' z' iv' av', fD_write h z x1 x2 = some (v, h', z') ∧ fM_write iv av x1 x2 = some (v, iv', av') ∧ iv' 0 = nt 0 ∧ Rel h' z' iv' av' ∧ gr (hC h 1 5) h' := by
  unfold tD_write fD_write fM_write jM_write_13 jM_write_22 jM_write_27 tD_needList fD_needList
  rcases pres r with ⟨p, p'⟩ | ⟨p, p', n, o, nd, fm, tr, dv, w⟩
  · left
    refine ⟨1, nt 0, .inl rfl, by simp [p'], ?_⟩
    by_cases hx : x1 < nt 0
    · simp (disch := omega) only [lit, ixF, nt_le, nt_lt, nt_eq, nt_cl, nt_add, nt_sub, bind_s, if_true, if_false, if_pos, if_neg, upd_s, k8, k16, k7, k4, s_r8, s_l7, s_l8, s_l16, a255, a127, p, hx, m_fails]
    · by_cases hx2 : x1 ≤ nt 2
      · simp (disch := omega) only [lit, ixF, nt_le, nt_lt, nt_eq, nt_cl, nt_add, nt_sub, bind_s, if_true, if_false, if_pos, if_neg, upd_s, k8, k16, k7, k4, s_r8, s_l7, s_l8, s_l16, a255, a127, p, hx, hx2, m_fails]
      · simp (disch := omega) only [lit, ixF, nt_le, nt_lt, nt_eq, nt_cl, nt_add, nt_sub, bind_s, if_true, if_false, if_pos, if_neg, upd_s, k8, k16, k7, k4, s_r8, s_l7, s_l8, s_l16, a255, a127, p, hx, hx2, m_fails]
  · by_cases hx1 : x1 < nt 0
    · left; refine ⟨2, nt 0, .inr rfl, ?_, ?_⟩
      · simp (disch := omega) only [lit, ixF, nt_le, nt_lt, nt_eq, nt_cl, nt_add, nt_sub, bind_s, if_true, if_false, if_pos, if_neg, upd_s, k8, k16, k7, k4, s_r8, s_l7, s_l8, s_l16, a255, a127, p', hx1]; simp
      · simp (disch := omega) only [lit, ixF, nt_le, nt_lt, nt_eq, nt_cl, nt_add, nt_sub, bind_s, if_true, if_false, if_pos, if_neg, upd_s, k8, k16, k7, k4, s_r8, s_l7, s_l8, s_l16, a255, a127, p, hx1, m_fails]
    · obtain ⟨f, hf0, rfl⟩ := lt_nt hx1
      by_cases hf : f ≤ 2
      · right
        have wz : LST (hC h 1 5) (zU z 1 0) (upd (upd iv 0 (nt 0)) 12 0) av n o nd fm tr dv := w.fr ⟨rfl, rfl, rfl, rfl, rfl, rfl, rfl, rfl, rfl, rfl, fun k h1 h2 => by rw [upd_n (by omega), upd_n (by omega)], fun _ _ _ => rfl⟩
        have ws : WS (hC h 1 5) (zU z 1 0) (upd (upd iv 0 (nt 0)) 12 0) av (hC h 1 5) (zU z 1 0) (upd (upd iv 0 (nt 0)) 12 0) av 0 := ⟨r.ci.C.U, rfl, rfl, fun _ _ => rfl, fun _ _ => rfl, rfl, fun _ _ => rfl, fun _ _ => rfl, fun _ _ => rfl, ⟨by omega, by omega, rfl, rfl, fun i hi => absurd hi (by omega), fun i hi => absurd hi (by omega)⟩⟩
        have : ∃ Q, ((f = 0 ∧ Q = 1) ∨ (0 < f ∧ Q = tr)) ∧ (if nt f = 0 then (jT_print_15 (hC h 1 5) z (upd (fun _ => 0) 0 x2) (nt f) (1 : Int32)) else (jT_print_15 (hC h 1 5) z (upd (fun _ => 0) 0 x2) (nt f) (zi z 5))) = jT_print_15 (hC h 1 5) z (upd (fun _ => 0) 0 x2) (nt f) (nt Q) := by
          by_cases q : f = 0
          · subst q; exact ⟨1, .inl ⟨rfl, rfl⟩, by rw [if_pos (show nt 0 = 0 from rfl)]; rfl⟩
          · exact ⟨tr, .inr ⟨by omega, rfl⟩, by rw [if_neg (by rw [lit, nt_eq (by omega) (by omega)]; omega), w.tc]⟩
        obtain ⟨Q, hq, eQ⟩ := this
        obtain ⟨h1, z1, iv1, av1, N1, pv1, a, b, c⟩ := r_print wz ws hf x2 (pv := upd (fun _ => 0) 0 x2) upd_s hq
        have e0 : iv1 0 = nt 0 := by rw [c.w.iv 0 (by decide), upd_n (by decide), upd_s]
        refine ⟨nt N1, h1, z1, iv1, av1, ?_, ?_, e0, ?_, c.g⟩
        · rw [p', if_neg (by decide), bind_s, if_neg (show ¬ nt f < 0 from hx1), if_pos (by rw [lit, nt_le (by omega) (by omega)]; exact hf), if_neg (by simp [hx])]
          have : fT_print (hC h 1 5) z (upd (fun _ => 0) 0 x2) (nt f) = some (h1, z1, pv1) := by
            unfold fT_print
            rw [eQ]
            unfold jT_print_15 fB1_empty
            rw [bind_s]; exact a
          rw [this, bind_s]; dsimp only
          unfold fB1_size
          rw [bind_s, c.w.out.c]
        · rw [p, if_neg (by decide), if_neg (show ¬ nt f < 0 from hx1), if_pos (by rw [lit, nt_le (by omega) (by omega)]; exact hf), show (0 : Int32) = nt 0 from rfl, m_fails (by omega) (by omega), bind_s]; dsimp only
          rw [if_pos (by rfl)]
          exact b
        · obtain ⟨ni, wi⟩ := r.inp
          have zk : ∀ k, k ≠ 1 → zi z1 k = zi z k := fun k hk => by rw [c.w.zi k hk, zi_U, upd_n hk]
          have ik : ∀ k, k ≠ 12 → k ≠ 0 → iv1 k = iv k := fun k hk hk0 => by rw [c.w.iv k hk, upd_n hk, upd_n hk0]
          refine ⟨c.w.ci, ⟨ni, wi.fr (zk 0 (by decide)) (c.w.za 0 (by decide)) (c.w.hl 0 (by decide)) (ik 1 (by decide) (by decide)) (c.w.av 0 (by decide))⟩, ⟨N1, c.w.out⟩, ?_, ?_, fun _ => ⟨n, o, nd, fm, tr, dv, ?_⟩, fun q => ?_⟩
          · rw [zk 3 (by decide), ik 6 (by decide) (by decide)]; exact r.pr
          · rw [ik 6 (by decide) (by decide)]; exact r.p01
          · exact w.fr ⟨zk 2 (by decide), zk 4 (by decide), zk 5 (by decide), zk 6 (by decide), zk 7 (by decide), c.w.za 2 (by decide), c.w.hl 2 (by decide), c.w.en, c.w.zr, c.w.ze, fun k h1 h2 => ik k (by omega) (by omega), fun k h1 h2 => c.w.av k (by omega)⟩
          · rw [ik 6 (by decide) (by decide), p] at q; exact absurd q (by decide)
      · left; refine ⟨2, nt 0, .inr rfl, ?_, ?_⟩
        · simp (disch := omega) only [lit, ixF, nt_le, nt_lt, nt_eq, nt_cl, nt_add, nt_sub, bind_s, if_true, if_false, if_pos, if_neg, upd_s, k8, k16, k7, k4, s_r8, s_l7, s_l8, s_l16, a255, a127, p', hx1]; simp
        · simp (disch := omega) only [lit, ixF, nt_le, nt_lt, nt_eq, nt_cl, nt_add, nt_sub, bind_s, if_true, if_false, if_pos, if_neg, upd_s, k8, k16, k7, k4, s_r8, s_l7, s_l8, s_l16, a255, a127, p, hx1, m_fails]
