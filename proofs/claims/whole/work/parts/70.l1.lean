theorem sw_get {α : Type} {a b : List α} {i : Nat} {p : α} (h : (b ++ a)[i]? = some p) : (a ++ b)[if i < b.length then i + a.length else i - b.length]? = some p ∧ i < a.length + b.length := by
  have hlt : i < (b ++ a).length := (List.getElem?_eq_some_iff.mp h).1
  rw [List.length_append] at hlt
  refine ⟨?_, by omega⟩
  by_cases q : i < b.length
  · rw [if_pos q, List.getElem?_append_right (by omega), show i + a.length - a.length = i by omega]
    rw [List.getElem?_append_left q] at h; exact h
  · rw [if_neg q, List.getElem?_append_left (by omega)]
    rw [List.getElem?_append_right (by omega)] at h; exact h
theorem sw_P {D : va_G} {cl : List vw_C} {a b : va_W} {H : Heap} (h : va_P D cl (a ++ b) H) : va_P D cl (b ++ a) H := fun k q hk => h _ q (sw_get hk).1
theorem sw_D {A : Nat → Prop} {a b : va_W} (h : va_D A (a ++ b)) : va_D A (b ++ a) := by
  refine ⟨fun i j p q hi hj e => ?_, fun k q hk => h.2 _ q (sw_get hk).1⟩
  obtain ⟨h1, h2⟩ := sw_get hi
  obtain ⟨h3, h4⟩ := sw_get hj
  have := h.1 _ _ p q h1 h3 e
  by_cases c1 : i < b.length
  · rw [if_pos c1] at this
    by_cases c2 : j < b.length
    · rw [if_pos c2] at this; omega
    · rw [if_neg c2] at this; omega
  · rw [if_neg c1] at this
    by_cases c2 : j < b.length
    · rw [if_pos c2] at this; omega
    · rw [if_neg c2] at this; omega
theorem cw_app1 {g : gT} {qq ad ea : Nat → Nat} {h : cH} {z : cZ} {x : Nat × va_E} {X : va_W} : cw g qq ad ea h z (x :: X) = cw g qq ad ea h z [x] ++ X := by
  simp only [cw, List.cons_append, List.append_assoc, List.nil_append]
theorem cw_app0 {g : gT} {qq ad ea : Nat → Nat} {h : cH} {z : cZ} {X : va_W} : cw g qq ad ea h z X = cw g qq ad ea h z [] ++ X := by
  simp only [cw, List.cons_append, List.append_assoc, List.append_nil]
/-- the law's world: the desk, the law's array, the reference -/
abbrev lX (g : gT) (qo : Nat) (f : Nat → Int64) (q : Nat) (am : Nat → Nat) (iv : Nat → Int32) (av : Nat → Nat → Int32) : va_W := oc g qo f :: mw g q am iv av []
theorem to_m {g : gT} {A : Nat → Prop} {H0 H : Heap} {qq ad ea am : Nat → Nat} {h : cH} {z : cZ} {qo q : Nat} {f : Nat → Int64} {iv : Nat → Int32} {av : Nat → Nat → Int32} {locs : List Loc} (hw : cWd g A H0 qq ad ea h (lX g qo f q am iv av) z H locs) : mWd g A H0 q am (cw g qq ad ea h z [oc g qo f]) iv av H locs := by
  obtain ⟨h1, h2, h3, h4⟩ := hw
  rw [lX, cw_app1] at h1 h2
  exact ⟨by rw [mw_app]; exact sw_P h1, by rw [mw_app]; exact sw_D h2, h3, h4⟩
theorem to_c {g : gT} {A : Nat → Prop} {H0 H : Heap} {qq ad ea am : Nat → Nat} {h : cH} {z : cZ} {qo q : Nat} {f : Nat → Int64} {iv : Nat → Int32} {av : Nat → Nat → Int32} {locs : List Loc} (hw : mWd g A H0 q am (cw g qq ad ea h z [oc g qo f]) iv av H locs) : cWd g A H0 qq ad ea h (lX g qo f q am iv av) z H locs := by
  obtain ⟨h1, h2, h3, h4⟩ := hw
  rw [mw_app] at h1 h2
  exact ⟨by rw [lX, cw_app1]; exact sw_P h1, by rw [lX, cw_app1]; exact sw_D h2, h3, h4⟩
theorem lX_map {g : gT} {qo q : Nat} {am : Nat → Nat} {f f' : Nat → Int64} {iv iv' : Nat → Int32} {av av' : Nat → Nat → Int32} : (lX g qo f q am iv av).map Prod.fst = (lX g qo f' q am iv' av').map Prod.fst := rfl
section ML
variable {p : Program} {l : Launch} {e : Env} {R : Room} {s : State} {m : MethodId} {args : Array Value} {below : List Frame} {meth : Method} {c : Code} {H : Heap} {locs : List Loc} {cells slots : Nat} {Q : State → Prop} {cc : ByteArray} {nL pc : Nat} {ls : Array Slot} {rest : List Value} {g : gT} {A : Nat → Prop} {H0 : Heap} {qq ad ea am : Nat → Nat} {h : cH} {z : cZ} {qo q : Nat} {f : Nat → Int64} {iv : Nat → Int32} {av : Nat → Nat → Int32}
/-- the law calls the reference -/
theorem mL_call {y : MethodName} {bytes : ByteArray} {maxL index n : Nat} {ret : Option FieldType} {rm : Room} {As : List Value} {rv : Option Value} {iv' : Nat → Int32} {av' : Nat → Nat → Int32} {st0 : List Value} (C : mCx p m c cc nL s args g "MidiDeskLaw") (hl : ls.size = nL) (hw : cWd g A H0 qq ad ea h (lX g qo f q am iv av) z H locs)
    (hM : mMet l y bytes maxL ret rm g q am (cw g qq ad ea h z [oc g qo f]) iv av (.ref q :: As) rv iv' av') (hcw : CallW R s args "MidiDeskLaw" "MidiDeskModel" index y bytes maxL ret (Cond.code y bytes maxL ret :: gw) rm rm.cells rm.slots n)
    (hn : As.length = n) (hst : st0 = As.reverse ++ .ref q :: rest) (hr : (rest.map fun v => v.category).sum ≤ 8) (hdg : decode cc pc = .ok (.invokevirtual index, 3)) (hf : cells + rm.cells ≤ R.cells ∧ slots + rm.slots ≤ R.slots)
    (kk : ∀ (H1 : Heap) (locs1 : List Loc), cWd g A H0 qq ad ea h (lX g qo f q am iv' av') z H1 locs1 → W p l e R s m args below meth c H1 locs1 (cells + rm.cells) (slots + rm.slots) Q (F0 m (pc + 3) ls (rv.toList ++ rest))) : W p l e R s m args below meth c H locs cells slots Q (F0 m pc ls st0) := by
  have hw' := to_m hw
  refine x_call (B := fun h1 => va_P g.1 classes (mw g q am iv' av' (cw g qq ad ea h z [oc g qo f])) h1) (rv := rv) (va_runV (As := As) (rest := rest) C.1 (hM H.size) hcw ⟨mPc_blind, m_recv C.2 hw', m_pre C.2 hw'⟩ rfl hn hl hst (lv_room hr) hdg hf) hw'.2.2.1 (fun y _ w => m_free hw' rfl y w) (m_free hw' rfl) (fun H1 locs1 hB hS => kk H1 locs1 (to_c ⟨hB, va_D_map mw_map hw'.2.1, hS, hw'.2.2.2⟩))
end ML
/-- what was made so far: 2 cells, 7013 slots a call, and what the shape stands for -/
def Bud (h : cH) (cells slots j : Nat) : Prop := cells ≤ 2 * j + phi h + 40 ∧ slots ≤ 7013 * j + phi h + 80000
theorem CI.phi_le {h z} (ci : CI h z) : phi h ≤ 169536 := by
  have h0 := ci.u0; have h1 := ci.u1; have h2 := ci.u2; have h3 := ci.u3; have h4 := ci.l4; have h5 := ci.ne
  unfold phi; omega
theorem Bud.room {h z cells slots j a b} (ci : CI h z) (B : Bud h cells slots j) (hj : j ≤ 512) (ha : a ≤ 100000) (hb : b ≤ 100000) : cells + a ≤ 601024 ∧ slots + b ≤ 7293034 := by
  have := ci.phi_le
  obtain ⟨h1, h2⟩ := B
  exact ⟨by omega, by omega⟩
/-- a call that grows the desk -/
theorem Bud.gr {h h' z z' cells slots j a b} (ci : CI h z) (ci' : CI h' z') (hj : j ≤ 512) (B : Bud h cells slots j) (g : gr (hC h a b) h') (le : cle h h') (ha : a ≤ 1) (hb : b ≤ 13) : (cells + (h'.2.2.1 - h.2.2.1) ≤ 601024 ∧ slots + (h'.2.2.2 - h.2.2.2) ≤ 7293034) ∧ cells + (h'.2.2.1 - h.2.2.1) ≤ 2 * j + 1 + phi h' + 40 ∧ slots + (h'.2.2.2 - h.2.2.2) ≤ 7013 * j + 13 + phi h' + 80000 := by
  have p1 := ci.phi_le
  have p2 := ci'.phi_le
  obtain ⟨h1, h2⟩ := B
  obtain ⟨g1, g2⟩ := g
  obtain ⟨l1, l2⟩ := le
  have e1 : (hC h a b).2.2.1 = h.2.2.1 + a := rfl
  have e2 : (hC h a b).2.2.2 = h.2.2.2 + b := rfl
  have e3 : phi (hC h a b) = phi h := rfl
  rw [e1, e3] at g1
  rw [e2, e3] at g2
  refine ⟨⟨?_, ?_⟩, ?_, ?_⟩ <;> omega
theorem gr0 {h h' : cH} (g : gr h h') : gr (hC h 0 0) h' := g
/-- at the start the two agree -/
theorem rel_I {n m : Nat} : Rel (hI n m) zI (fun _ => 0) (fun _ _ => 0) := by
  refine ⟨⟨?_, ?_, ?_, ?_, ?_, ?_, ?_, ?_, ?_, ?_, fun t ht => absurd ht (Nat.not_lt_zero t), fun t _ => rfl, fun k i j hj => (by cases hj), fun t t' ht => absurd ht (Nat.not_lt_zero t)⟩, ⟨0, ?_⟩, ⟨0, ?_⟩, rfl, .inl rfl, fun q => absurd q (by decide), fun _ => ⟨rfl, rfl⟩⟩
  · show 64 ≤ 64; omega
  · show 64 ≤ 24000; omega
  · show 64 ≤ 64; omega
  · show 64 ≤ 32768; omega
  · show 64 ≤ 64; omega
  · show 64 ≤ 16000; omega
  · show 16 ≤ 16; omega
  · show 16 ≤ 2000; omega
  · rfl
  · show 0 ≤ 16; omega
  · exact ⟨by omega, by omega, rfl, rfl, fun i hi => absurd hi (by omega), fun i hi => absurd hi (by omega)⟩
  · exact ⟨by omega, by omega, rfl, rfl, fun i hi => absurd hi (by omega), fun i hi => absurd hi (by omega)⟩
theorem oD_write {h h' : cH} {z z' : cZ} {x1 x2 r' : Int32} (hf : fD_write h z x1 x2 = some (r', h', z')) : cle h h' := by
  unfold fD_write at hf
  obtain ⟨z1, -, hf⟩ := ts_b hf
  obtain ⟨-, hf⟩ := ts_g hf
  by_cases q : x1 ≤ 2
  · rw [if_pos q] at hf
    obtain ⟨-, hf⟩ := ts_g hf
    obtain ⟨⟨h1, z2, pv⟩, g1, hf⟩ := ts_b hf
    obtain ⟨⟨r1, z3⟩, -, hf⟩ := ts_b hf
    cases hf
    have := oT_print g1
    obtain ⟨l1, l2⟩ := this
    have e1 : (hC h 1 5).2.2.1 = h.2.2.1 + 1 := rfl
    have e2 : (hC h 1 5).2.2.2 = h.2.2.2 + 5 := rfl
    exact ⟨by omega, by omega⟩
  · rw [if_neg q] at hf; cases hf
