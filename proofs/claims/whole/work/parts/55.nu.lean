theorem va_up_s {f : Nat → Option Nat} {i : Nat} {x : Option Nat} : va_up f i x i = x := by simp [va_up]
theorem va_up_n {f : Nat → Option Nat} {i j : Nat} {x : Option Nat} (h : j ≠ i) : va_up f i x j = f j := by simp [va_up, h]
theorem l_cpL {h : cH} {z : cZ} {ln N : Nat} (wf : wfz h z) (hN : N ≤ h.1 3) (hl : N ≤ ln) (hN2 : N ≤ 2000) : ∀ m fuel i lr, i + m = N → m < fuel → (∀ t, t < i → lr t = zr z 0 t) → (∀ t, i ≤ t → lr t = none) →
    ∃ lr', lS_copyL_3 h ln fuel z lr 0 (nt N) (nt i) = some (z, lr') ∧ (∀ t, t < N → lr' t = zr z 0 t) ∧ (∀ t, N ≤ t → lr' t = none) := by
  intro m
  induction m with
  | zero =>
    intro fuel i lr hi hf h1 h2
    obtain ⟨f, rfl⟩ : ∃ f, fuel = f + 1 := ⟨fuel - 1, by omega⟩
    obtain rfl : i = N := by omega
    refine ⟨lr, ?_, h1, h2⟩
    rw [lS_copyL_3]; dsimp only
    rw [if_pos (by rw [nt_le (by omega) (by omega)]; omega)]
  | succ m ih =>
    intro fuel i lr hi hf h1 h2
    obtain ⟨f, rfl⟩ : ∃ f, fuel = f + 1 := ⟨fuel - 1, by omega⟩
    obtain ⟨lr', a, b1, b2⟩ := ih f (i + 1) (va_up lr i (zr z 0 i)) (by omega) (by omega) (fun t ht => by
      by_cases q : t = i
      · subst q; exact va_up_s
      · rw [va_up_n q]; exact h1 t (by omega)) (fun t ht => by rw [va_up_n (by omega)]; exact h2 t (by omega))
    refine ⟨lr', ?_, b1, b2⟩
    have ok : ¬ okr h.2.1 (zr z 0 i) = false := by
      cases e : zr z 0 i with
      | none => simp [okr]
      | some j => have := wf 0 i j e; simp [okr, this]
    rw [lS_copyL_3]; dsimp only
    rw [if_neg (by rw [nt_le (by omega) (by omega)]; omega), if_neg (ixN (by omega) (by omega)), show (0 : Int32) + nt i = nt i from by rw [show (0 : Int32) = nt 0 from rfl, nt_add, Nat.zero_add], if_neg (ixN (by omega) (by omega)), nt_cl (by omega), if_neg ok, show (1 : Int32) = nt 1 from rfl, nt_add]
    exact a
/-- a place for one more event -/
abbrev Add (h : cH) (z : cZ) (h' : cH) (z' : cZ) (n : Nat) : Prop := (CI h' z') ∧ (gr h h') ∧ (n < h'.2.1) ∧ (h.2.1 ≤ h'.2.1) ∧ (zi z' = upd (zi z) 7 (nt (n + 1))) ∧ (za z' = za z) ∧ (∀ k, k < n → rr z' k = rr z k) ∧ (∀ j, j < h.2.1 → ze z' j = ze z j) ∧ (∀ a, a ≠ 3 → a ≠ 4 → h'.1 a = h.1 a)
theorem Add.ci {h : cH} {z : cZ} {h' : cH} {z' : cZ} {n : Nat} (s : Add h z h' z' n) : CI h' z' := s.1
theorem Add.gr {h : cH} {z : cZ} {h' : cH} {z' : cZ} {n : Nat} (s : Add h z h' z' n) : gr h h' := s.2.1
theorem Add.lt {h : cH} {z : cZ} {h' : cH} {z' : cZ} {n : Nat} (s : Add h z h' z' n) : n < h'.2.1 := s.2.2.1
theorem Add.le {h : cH} {z : cZ} {h' : cH} {z' : cZ} {n : Nat} (s : Add h z h' z' n) : h.2.1 ≤ h'.2.1 := s.2.2.2.1
theorem Add.i {h : cH} {z : cZ} {h' : cH} {z' : cZ} {n : Nat} (s : Add h z h' z' n) : zi z' = upd (zi z) 7 (nt (n + 1)) := s.2.2.2.2.1
theorem Add.a {h : cH} {z : cZ} {h' : cH} {z' : cZ} {n : Nat} (s : Add h z h' z' n) : za z' = za z := s.2.2.2.2.2.1
theorem Add.r {h : cH} {z : cZ} {h' : cH} {z' : cZ} {n : Nat} (s : Add h z h' z' n) : ∀ k, k < n → rr z' k = rr z k := s.2.2.2.2.2.2.1
theorem Add.e {h : cH} {z : cZ} {h' : cH} {z' : cZ} {n : Nat} (s : Add h z h' z' n) : ∀ j, j < h.2.1 → ze z' j = ze z j := s.2.2.2.2.2.2.2.1
theorem Add.l {h : cH} {z : cZ} {h' : cH} {z' : cZ} {n : Nat} (s : Add h z h' z' n) : ∀ a, a ≠ 3 → a ≠ 4 → h'.1 a = h.1 a := s.2.2.2.2.2.2.2.2
theorem updN_s {f : Nat → Nat} {k x : Nat} : updN f k x k = x := by simp [updN]
theorem updN_n {f : Nat → Nat} {k x j : Nat} (h : j ≠ k) : updN f k x j = f j := by simp [updN, h]
theorem add53 {h z n} (ci : CI h z) (c : zi z 7 = nt n) (hn : n ≤ h.2.1) (hl : n < h.1 3) :
    ∃ h' z', jS_addEvent_53 h z = some (some (rr z' n), h', z') ∧ Add h z h' z' n := by
  have u3 := ci.u3
  unfold jS_addEvent_53
  rw [c, if_neg (ixN hl (by omega)), if_neg (ixN hl (by omega)), nt_cl (by omega)]
  by_cases q : n = h.2.1
  · have e0 : zr z 0 n = none := ci.rn n (by omega)
    rw [if_pos e0, if_pos ci.wf]
    have z8 : zi (zR (zN z h.2.1) 0 n (some h.2.1)) 7 = nt n := c
    have rn' : zr (zU (zR (zN z h.2.1) 0 n (some h.2.1)) 7 (nt (n + 1))) 0 n = some h.2.1 := by
      show upr (zr z) 0 n (some h.2.1) 0 n = _; exact upr_s
    have ro' : ∀ t, t ≠ n → zr (zU (zR (zN z h.2.1) 0 n (some h.2.1)) 7 (nt (n + 1))) 0 t = zr z 0 t := fun t ht => by
      show upr (zr z) 0 n (some h.2.1) 0 t = _; exact upr_n ht
    have rrn : rr (zU (zR (zN z h.2.1) 0 n (some h.2.1)) 7 (nt (n + 1))) n = h.2.1 := by unfold rr; rw [rn']; rfl
    have rro : ∀ t, t ≠ n → rr (zU (zR (zN z h.2.1) 0 n (some h.2.1)) 7 (nt (n + 1))) t = rr z t := fun t ht => by unfold rr; rw [ro' t ht]
    refine ⟨(h.1, h.2.1 + 1, h.2.2.1 + 1, h.2.2.2 + 7), zU (zR (zN z h.2.1) 0 n (some h.2.1)) 7 (nt (n + 1)), ?_, ⟨?_, ?_, ?_, ?_, rfl, rfl, fun k hk => rro k (by omega), fun j hj => ?_, fun _ _ _ => rfl⟩⟩
    · unfold jS_addEvent_81
      rw [z8, if_neg (ixN hl (by omega)), nt_cl (by omega), show (1 : Int32) = nt 1 from rfl, nt_add, rrn]
      have : zr (zR (zN z h.2.1) 0 n (some h.2.1)) 0 n = some h.2.1 := by
        show upr (zr z) 0 n (some h.2.1) 0 n = _; exact upr_s
      rw [this]
    · refine ⟨ci.l0, ci.u0, ci.l1, ci.u1, ci.l2, ci.u2, ci.l3, ci.u3, ci.l4, by show h.2.1 + 1 ≤ h.1 3; omega, fun t ht => ?_, fun t ht => ?_, fun k i j hj => ?_, fun t t' ht ht' e => ?_⟩
      · by_cases w : t = n
        · subst w; rw [rn', rrn]
        · rw [ro' t w, rro t w]
          exact ci.ro t (by have : t < h.2.1 + 1 := ht; omega)
      · have : h.2.1 + 1 ≤ t := ht
        rw [ro' t (by omega)]; exact ci.rn t (by omega)
      · show j < h.2.1 + 1
        by_cases w : k = 0 ∧ i = n
        · rw [w.1, w.2, rn'] at hj; injection hj with hj; omega
        · have : zr (zU (zR (zN z h.2.1) 0 n (some h.2.1)) 7 (nt (n + 1))) k i = zr z k i := by
            show upr (zr z) 0 n (some h.2.1) k i = _
            by_cases w2 : k = 0
            · subst w2; exact upr_n fun w3 => w ⟨rfl, w3⟩
            · rw [upr_o w2]
          rw [this] at hj
          have := ci.wf k i j hj; omega
      · have ht : t < h.2.1 + 1 := ht
        have ht' : t' < h.2.1 + 1 := ht'
        by_cases w : t = n
        · by_cases w' : t' = n
          · omega
          · rw [w, rrn, rro t' w'] at e
            have := ci.ev (t := t') (by omega); omega
        · by_cases w' : t' = n
          · rw [w', rrn, rro t w] at e
            have := ci.ev (t := t) (by omega); omega
          · rw [rro t w, rro t' w'] at e
            exact ci.ij t t' (by omega) (by omega) e
    · have p1 : phi ((h.1, h.2.1 + 1, h.2.2.1 + 1, h.2.2.2 + 7) : cH) = phi h + 8 := by unfold phi; dsimp only; omega
      refine ⟨?_, ?_⟩
      · rw [p1]; dsimp only; omega
      · rw [p1]; dsimp only; omega
    · show n < h.2.1 + 1; omega
    · show h.2.1 ≤ h.2.1 + 1; omega
    · show (fun a b => if a = h.2.1 then 0 else ze z a b) j = ze z j
      funext b; dsimp only; rw [if_neg (by omega)]
  · have e0 : zr z 0 n = some (rr z n) := ci.ro n (by omega)
    rw [if_neg (by rw [e0]; simp)]
    refine ⟨h, zU z 7 (nt (n + 1)), ?_, ⟨ci.zr' rfl, gr.refl _, by omega, by omega, rfl, rfl, fun _ _ => rfl, fun _ _ => rfl, fun _ _ _ => rfl⟩⟩
    unfold jS_addEvent_81
    rw [c, if_neg (ixN hl (by omega)), nt_cl (by omega), show (1 : Int32) = nt 1 from rfl, nt_add, e0]; rfl
theorem c_add {h z n} (ci : CI h z) (c : zi z 7 = nt n) (hn : n ≤ h.2.1) (hl : n < 1000) :
    ∃ h' z', fS_addEvent h z = some (some (rr z' n), h', z') ∧ Add h z h' z' n := by
  have u3 := ci.u3
  have l3 := ci.l3
  have hne := ci.ne
  have hl4 := ci.l4
  unfold fS_addEvent
  rw [c, show Int32.ofNat (h.1 3) = nt (h.1 3) from rfl]
  by_cases q : n = h.1 3
  rotate_left
  · rw [if_neg (by rw [nt_eq (by omega) (by omega)]; exact q)]
    exact add53 ci c hn (by omega)
  rw [if_pos (by rw [q]), show (2 : Int32) = nt 2 from rfl, nt_mul, if_neg (by rw [nt_neg (by omega), nt_cl (by omega)]; intro w; rcases w with w | w; exact w; omega), nt_cl (by omega)]
  obtain ⟨lr, a, b1, b2⟩ := l_cpL (h := h) (z := z) (ln := 2 * n) (N := n) ci.wf (by omega) (by omega) (by omega) n FU 0 (fun _ => none) (by omega) (FUn (by omega)) (fun t ht => absurd ht (by omega)) (fun _ _ => rfl)
  unfold fS_copyL
  rw [show (lS_copyL_3 h (2 * n) FU z (fun _ => none) 0 (nt n) 0) = some (z, lr) from a, bind_s]; dsimp only
  rw [show zi (zG z 0 lr) 7 = nt n from c, nt_mul, if_neg (by rw [nt_neg (by omega), nt_cl (by omega)]; intro w; rcases w with w | w; exact w; omega), nt_cl (by omega)]
  have r0 : zr (zG (zG z 0 lr) 1 (fun _ => none)) 0 = lr := by
    rw [zr_G]; funext t; dsimp only; rw [if_neg (by decide), zr_G]; dsimp only; rw [if_pos rfl]
  have r1 : zr (zG (zG z 0 lr) 1 (fun _ => none)) 1 = fun _ => none := by
    rw [zr_G]; funext t; dsimp only; rw [if_pos rfl]
  have r2 : ∀ k, 2 ≤ k → zr (zG (zG z 0 lr) 1 (fun _ => none)) k = zr z k := fun k hk => by
    rw [zr_G]; funext t; dsimp only; rw [if_neg (by omega), zr_G]; dsimp only; rw [if_neg (by omega)]
  have rt : ∀ t, lr t = zr z 0 t := fun t => by
    by_cases w : t < n
    · exact b1 t w
    · rw [b2 t (by omega), ci.rn t (by omega)]
  have rrt : ∀ t, rr (zG (zG z 0 lr) 1 (fun _ => none)) t = rr z t := fun t => by unfold rr; rw [r0, rt]
  have H3 : (hC (hL (hL h 3 (2 * n)) 4 (2 * n)) 2 (2 * n + 2 * n)).1 3 = 2 * n := by
    show updN (updN h.1 3 (2 * n)) 4 (2 * n) 3 = _; rw [updN_n (by decide), updN_s]
  have H4 : (hC (hL (hL h 3 (2 * n)) 4 (2 * n)) 2 (2 * n + 2 * n)).1 4 = 2 * n := by
    show updN (updN h.1 3 (2 * n)) 4 (2 * n) 4 = _; rw [updN_s]
  have HO : ∀ a, a ≠ 3 → a ≠ 4 → (hC (hL (hL h 3 (2 * n)) 4 (2 * n)) 2 (2 * n + 2 * n)).1 a = h.1 a := fun a h1 h2 => by
    show updN (updN h.1 3 (2 * n)) 4 (2 * n) a = _; rw [updN_n h2, updN_n h1]
  have HE : (hC (hL (hL h 3 (2 * n)) 4 (2 * n)) 2 (2 * n + 2 * n)).2.1 = h.2.1 := rfl
  have HC : (hC (hL (hL h 3 (2 * n)) 4 (2 * n)) 2 (2 * n + 2 * n)).2.2.1 = h.2.2.1 + 2 := rfl
  have HS : (hC (hL (hL h 3 (2 * n)) 4 (2 * n)) 2 (2 * n + 2 * n)).2.2.2 = h.2.2.2 + (2 * n + 2 * n) := rfl
  generalize hC (hL (hL h 3 (2 * n)) 4 (2 * n)) 2 (2 * n + 2 * n) = H at *
  have cc : zi (zG (zG z 0 lr) 1 (fun _ => none)) = zi z := rfl
  have ca : za (zG (zG z 0 lr) 1 (fun _ => none)) = za z := rfl
  have ce : ze (zG (zG z 0 lr) 1 (fun _ => none)) = ze z := rfl
  generalize zG (zG z 0 lr) 1 (fun _ => none) = Z at *
  have CIH : CI H Z := by
    refine ⟨by rw [HO 0 (by decide) (by decide)]; exact ci.l0, by rw [HO 0 (by decide) (by decide)]; exact ci.u0, by rw [HO 1 (by decide) (by decide)]; exact ci.l1, by rw [HO 1 (by decide) (by decide)]; exact ci.u1, by rw [HO 2 (by decide) (by decide)]; exact ci.l2, by rw [HO 2 (by decide) (by decide)]; exact ci.u2, by rw [H3]; omega, by rw [H3]; omega, by rw [H3, H4], by rw [H3, HE]; omega, fun t ht => ?_, fun t ht => ?_, fun k i j hj => ?_, fun t t' ht ht' e => ?_⟩
    · rw [HE] at ht; rw [r0, rt, rrt]; exact ci.ro t ht
    · rw [HE] at ht; rw [r0, rt]; exact ci.rn t ht
    · rw [HE]
      by_cases w0 : k = 0
      · rw [w0, r0, rt] at hj; exact ci.wf 0 i j hj
      by_cases w1 : k = 1
      · rw [w1, r1] at hj; simp at hj
      · rw [r2 k (by omega)] at hj; exact ci.wf k i j hj
    · rw [HE] at ht ht'; rw [rrt, rrt] at e; exact ci.ij t t' ht ht' e
  obtain ⟨h', z', A, B⟩ := add53 (h := H) (z := Z) (n := n) CIH (by rw [cc]; exact c) (by rw [HE]; exact hn) (by rw [H3]; omega)
  refine ⟨h', z', A, ⟨B.ci, gr.trans (b := H) ⟨?_, ?_⟩ B.gr, B.lt, by have := B.le; omega, by rw [B.i, cc], by rw [B.a, ca], fun k hk => by rw [B.r k hk, rrt], fun j hj => by rw [B.e j (by omega), ce], fun a h1 h2 => by rw [B.l a h1 h2, HO a h1 h2]⟩⟩
  · have : phi H = phi h + 4 * n := by unfold phi; rw [H3, H4, HE, HO 0 (by decide) (by decide), HO 1 (by decide) (by decide), HO 2 (by decide) (by decide)]; omega
    rw [this, HC]; omega
  · have : phi H = phi h + 4 * n := by unfold phi; rw [H3, H4, HE, HO 0 (by decide) (by decide), HO 1 (by decide) (by decide), HO 2 (by decide) (by decide)]; omega
    rw [this, HS]; omega
