theorem gw_58 : (Jvm.Cond.initialized "java/lang/System") ∈ gw := gw_in 58 (by decide +kernel) (by decide +kernel)
theorem gw_91 : (Jvm.Cond.arrayClass Jvm.ClassFile.FieldType.int) ∈ gw := gw_in 91 (by decide +kernel) (by decide +kernel)
theorem gw_165 : (Jvm.Cond.code ({ cls := "java/util/Arrays", name := "copyOf", desc := "([II)[I" } : Jvm.MethodName) prog_18_method_123_code (3 : Nat) (Option.some (Jvm.ClassFile.FieldType.array Jvm.ClassFile.FieldType.int))) ∈ gw := gw_in 165 (by decide +kernel) (by decide +kernel)
theorem gw_173 : (Jvm.Cond.methodLink "java/util/Arrays" (304 : Nat) ({ cls := "java/lang/Math", name := "min", desc := "(II)I" } : Jvm.MethodName)) ∈ gw := gw_in 173 (by decide +kernel) (by decide +kernel)
theorem gw_176 : (Jvm.Cond.methodLink "java/util/Arrays" (150 : Nat) ({ cls := "java/lang/System", name := "arraycopy", desc := "(Ljava/lang/Object;ILjava/lang/Object;II)V" } : Jvm.MethodName)) ∈ gw := gw_in 176 (by decide +kernel) (by decide +kernel)
theorem gw_177 : (Jvm.Cond.static ({ cls := "java/lang/System", name := "arraycopy", desc := "(Ljava/lang/Object;ILjava/lang/Object;II)V" } : Jvm.MethodName)) ∈ gw := gw_in 177 (by decide +kernel) (by decide +kernel)
theorem gw_178 : (Jvm.Cond.native ({ cls := "java/lang/System", name := "arraycopy", desc := "(Ljava/lang/Object;ILjava/lang/Object;II)V" } : Jvm.MethodName)) ∈ gw := gw_in 178 (by decide +kernel) (by decide +kernel)
theorem va_P_in {D : va_G} {cl : List vw_C} {ws ws' : va_W} {H : Heap} (h : va_P D cl ws H) (hs : ∀ q ∈ ws', q ∈ ws) : va_P D cl ws' H := fun k q hk => by
  obtain ⟨i, hi⟩ := List.getElem?_of_mem (hs q (List.mem_of_getElem? hk))
  exact h i q hi
def updN (f : Nat → Nat) (k x : Nat) : Nat → Nat := fun j => if j = k then x else f j
/-- the desk's cells without the others -/
def cwb (g : gT) (qq ad ea : Nat → Nat) (h : cH) (z : cZ) : va_W := (cw g qq ad ea h z []).take 10 ++ cpool ea z h.2.1
theorem cw_app {g : gT} {qq ad ea : Nat → Nat} {h : cH} {z : cZ} {X : va_W} : cw g qq ad ea h z X = cwb g qq ad ea h z ++ X := by
  simp only [cwb, List.append_assoc]
  rfl
theorem cw_pushP {D : va_G} {cl : List vw_C} {g : gT} {qq ad ea : Nat → Nat} {h : cH} {z : cZ} {X : va_W} {x : Nat × va_E} {H : Heap} (hP : va_P D cl (cw g qq ad ea h z X ++ [x]) H) : va_P D cl (cw g qq ad ea h z (x :: X)) H := by
  rw [cw_app] at hP ⊢
  have := va_P.swap hP
  rw [List.append_assoc] at this
  exact this
theorem cw_pushD {A : Nat → Prop} {g : gT} {qq ad ea : Nat → Nat} {h : cH} {z : cZ} {X : va_W} {x : Nat × va_E} (hD : va_D A (cw g qq ad ea h z X ++ [x])) : va_D A (cw g qq ad ea h z (x :: X)) := by
  rw [cw_app] at hD ⊢
  have := va_D.swap hD
  rw [List.append_assoc] at this
  exact this
theorem cw_dropP {D : va_G} {cl : List vw_C} {g : gT} {qq ad ea : Nat → Nat} {h : cH} {z : cZ} {X : va_W} {x : Nat × va_E} {H : Heap} (hP : va_P D cl (cw g qq ad ea h z (x :: X)) H) : va_P D cl (cw g qq ad ea h z X) H := by
  rw [cw_app] at hP ⊢
  refine va_P_in hP (fun q hq => ?_)
  rcases List.mem_append.mp hq with w | w
  · exact List.mem_append_left _ w
  · exact List.mem_append_right _ (List.mem_cons_of_mem _ w)
theorem va_D_nd {A : Nat → Prop} {ws : va_W} : va_D A ws ↔ (ws.map Prod.fst).Nodup ∧ ∀ q ∈ ws, A q.1 := by
  constructor
  · intro h
    refine ⟨?_, fun q hq => ?_⟩
    · refine List.pairwise_iff_getElem.mpr (fun i j hi hj hij e => ?_)
      rw [List.length_map] at hi hj
      rw [List.getElem_map, List.getElem_map] at e
      have := h.1 i j ws[i] ws[j] (List.getElem?_eq_getElem hi) (List.getElem?_eq_getElem hj) e
      omega
    · obtain ⟨i, hi⟩ := List.getElem?_of_mem hq
      exact h.2 i q hi
  · intro h
    refine ⟨fun i j p q hi hj e => ?_, fun k q hk => h.2 q (List.mem_of_getElem? hk)⟩
    have hil := (List.getElem?_eq_some_iff.mp hi).1
    have hjl := (List.getElem?_eq_some_iff.mp hj).1
    have hn := List.pairwise_iff_getElem.mp h.1
    have ei : (ws.map Prod.fst)[i]'(by rw [List.length_map]; exact hil) = p.1 := by rw [List.getElem_map]; rw [List.getElem?_eq_getElem hil] at hi; rw [Option.some.inj hi]
    have ej : (ws.map Prod.fst)[j]'(by rw [List.length_map]; exact hjl) = q.1 := by rw [List.getElem_map]; rw [List.getElem?_eq_getElem hjl] at hj; rw [Option.some.inj hj]
    rcases Nat.lt_trichotomy i j with w | w | w
    · exact absurd (by rw [ei, ej]; exact e) (hn i j _ _ w)
    · exact w
    · exact absurd (by rw [ei, ej]; exact e.symm) (hn j i _ _ w)
theorem cw_dropD {A : Nat → Prop} {g : gT} {qq ad ea : Nat → Nat} {h : cH} {z : cZ} {X : va_W} {x : Nat × va_E} (hD : va_D A (cw g qq ad ea h z (x :: X))) : va_D A (cw g qq ad ea h z X) := by
  rw [cw_app] at hD ⊢
  rw [va_D_nd] at hD ⊢
  refine ⟨?_, fun q hq => hD.2 q ?_⟩
  · refine List.Nodup.sublist ?_ hD.1
    exact ((List.Sublist.refl _).append (List.sublist_cons_self _ _)).map _
  · rcases List.mem_append.mp hq with w | w
    · exact List.mem_append_left _ w
    · exact List.mem_append_right _ (List.mem_cons_of_mem _ w)
/-- a cell of the world is forgotten, another one of it takes its place -/
theorem va_D_set {A : Nat → Prop} {ws : va_W} {x : Nat × va_E} {i : Nat} (hD : va_D A (ws ++ [x])) : va_D A (ws.set i x) := by
  refine va_D.by hD (fun k => if k = i then ws.length else k) (fun k q hk => ?_) (fun a b ha hb e => ?_)
  · have hl : k < (ws.set i x).length := (List.getElem?_eq_some_iff.mp hk).1
    rw [List.length_set] at hl
    by_cases hki : k = i
    · subst hki
      rw [List.getElem?_set_self hl] at hk
      rw [if_pos rfl, List.getElem?_append_right (Nat.le_refl _), Nat.sub_self]
      exact hk
    · rw [List.getElem?_set_ne (Ne.symm hki)] at hk
      rw [if_neg hki, List.getElem?_append_left hl]
      exact hk
  · rw [List.length_set] at ha hb
    by_cases h1 : a = i <;> by_cases h2 : b = i
    · omega
    · rw [if_pos h1, if_neg h2] at e; omega
    · rw [if_neg h1, if_pos h2] at e; omega
    · rw [if_neg h1, if_neg h2] at e; exact e
theorem va_P_set {D : va_G} {cl : List vw_C} {ws : va_W} {x : Nat × va_E} {i : Nat} {H : Heap} (hP : va_P D cl (ws ++ [x]) H) : va_P D cl (ws.set i x) H := va_P_in hP (fun q hq => by
  rcases List.mem_or_eq_of_mem_set hq with w | w
  · exact List.mem_append_left _ w
  · rw [w]; exact List.mem_append_right _ List.mem_cons_self)
theorem cw_endP {D : va_G} {cl : List vw_C} {g : gT} {qq ad ea : Nat → Nat} {h : cH} {z : cZ} {X : va_W} {x : Nat × va_E} {H : Heap} (hP : va_P D cl (cw g qq ad ea h z (x :: X)) H) : va_P D cl (cw g qq ad ea h z X ++ [x]) H := by
  rw [cw_app] at hP ⊢
  refine va_P_in hP (fun q hq => ?_)
  simp only [List.mem_append, List.mem_cons, List.not_mem_nil, or_false] at hq ⊢
  rcases hq with (w | w) | w
  · exact Or.inl w
  · exact Or.inr (Or.inr w)
  · exact Or.inr (Or.inl w)
theorem cw_endD {A : Nat → Prop} {g : gT} {qq ad ea : Nat → Nat} {h : cH} {z : cZ} {X : va_W} {x : Nat × va_E} (hD : va_D A (cw g qq ad ea h z (x :: X))) : va_D A (cw g qq ad ea h z X ++ [x]) := by
  rw [cw_app] at hD ⊢
  have e : cwb g qq ad ea h z ++ x :: X = (cwb g qq ad ea h z ++ [x]) ++ X := by rw [List.append_assoc]; rfl
  rw [e] at hD
  exact va_D.swap hD
def cle (h h' : cH) : Prop := h.2.2.1 ≤ h'.2.2.1 ∧ h.2.2.2 ≤ h'.2.2.2
theorem cle.rf {h : cH} : cle h h := ⟨Nat.le_refl _, Nat.le_refl _⟩
theorem cle.tr {a b c : cH} (h1 : cle a b) (h2 : cle b c) : cle a c := ⟨Nat.le_trans h1.1 h2.1, Nat.le_trans h1.2 h2.2⟩
/-- n cells of m slots more -/
def hC (h : cH) (n m : Nat) : cH := (h.1, h.2.1, h.2.2.1 + n, h.2.2.2 + m)
/-- an array of another length -/
def hL (h : cH) (k n : Nat) : cH := (updN h.1 k n, h.2)
def zF (z : cZ) (k : Nat) (f : Nat → Int32) : cZ := (z.1, (fun a => if a = k then f else z.2.1 a), z.2.2)
def zG (z : cZ) (k : Nat) (f : Nat → Option Nat) : cZ := (z.1, z.2.1, (fun a => if a = k then f else z.2.2.1 a), z.2.2.2)
def zN (z : cZ) (j : Nat) : cZ := (z.1, z.2.1, z.2.2.1, fun a b => if a = j then 0 else z.2.2.2 a b)
def wfz (h : cH) (z : cZ) : Prop := ∀ k i j : Nat, zr z k i = some j → j < h.2.1
abbrev larr (g : gT) (n : Nat) (f : Nat → Int32) : va_E := .inl (g.2.1, n, .inl f)
abbrev rarr (g : gT) (ea : Nat → Nat) (n : Nat) (f : Nat → Option Nat) : va_E := .inl (g.2.2.2, n, .inr (.inr (.inr (.inr (fun t => Option.map ea (f t))))))
section AR
variable {p : Program} {l : Launch} {e : Env} {R : Room} {s : State} {m : MethodId} {args : Array Value} {below : List Frame} {meth : Method} {c : Code} {H : Heap} {locs : List Loc} {cells slots : Nat} {Q : State → Prop} {cc : ByteArray} {nL pc : Nat} {ls : Array Slot} {rest : List Value} {g : gT} {A : Nat → Prop} {H0 : Heap} {qq ad ea : Nat → Nat} {X : va_W} {h : cH} {z : cZ} {own : String} {ws : va_W}
/-- newarray int -/
theorem x_newi {n : Int32} {N : Nat} (C : mCx p m c cc nL s args g own) (hP : va_P g.1 classes ws H) (hD : va_D A ws) (hS : va_S A H0 H locs) (hA : ∀ y, H0.size ≤ y → A y) (hn : ¬ n < 0) (hN : n.toNatClampNeg = N) (hb : N * 4 ≤ 536870912) (hc : cells + 1 ≤ R.cells) (hs : slots + N ≤ R.slots) (hdg : decode cc pc = .ok (.newarray .int, 2))
    (kk : ∀ (q : Nat) (H1 : Heap), va_P g.1 classes (ws ++ [(q, larr g N (fun _ => 0))]) H1 → va_D A (ws ++ [(q, larr g N (fun _ => 0))]) → va_S A H0 H1 locs → W p l e R s m args below meth c H1 locs (cells + 1) (slots + N) Q (F0 m (pc + 2) ls (.ref q :: rest))) : W p l e R s m args below meth c H locs cells slots Q (F0 m pc ls (.int n :: rest)) := by
  refine va_newa (a0 := (N, .inl (fun _ => 0))) C.1.1 C.1.2.1 (atype := .int) (C.1.2.2.2.2 _ gw_91) rfl C.2.1 hP hD hS hA (fun cA => rfl) hn hN hb hc hs hdg (fun q cA H1 hK hP hD hS => ?_)
  have e : cA = g.2.1 := Option.some.inj ((hK.2 3 (cA, .int) rfl).2.symm.trans (C.2.1.2 0 (g.2.1, .int) rfl).2)
  subst e
  exact kk q H1 hP hD hS
/-- anewarray of events -/
theorem x_newr {n : Int32} {N index : Nat} (C : mCx p m c cc nL s args g own) (hcl : Cond.classLink own index "MidiDesk$Event" ∈ gw) (hP : va_P g.1 classes ws H) (hD : va_D A ws) (hS : va_S A H0 H locs) (hA : ∀ y, H0.size ≤ y → A y) (hn : ¬ n < 0) (hN : n.toNatClampNeg = N) (hb : N * 4 ≤ 536870912) (hc : cells + 1 ≤ R.cells) (hs : slots + N ≤ R.slots) (hdg : decode cc pc = .ok (.anewarray index, 3))
    (kk : ∀ (q : Nat) (H1 : Heap), va_P g.1 classes (ws ++ [(q, rarr g ea N (fun _ => none))]) H1 → va_D A (ws ++ [(q, rarr g ea N (fun _ => none))]) → va_S A H0 H1 locs → W p l e R s m args below meth c H1 locs (cells + 1) (slots + N) Q (F0 m (pc + 3) ls (.ref q :: rest))) : W p l e R s m args below meth c H locs cells slots Q (F0 m pc ls (.int n :: rest)) := by
  refine va_newq (C := "MidiDesk$Event") C.1.1 C.1.2.1 C.1.2.2.2.1 (C.1.2.2.2.2 _ hcl) C.2.2.2 C.2.1 hP hD hS hA hn hN hb hc hs hdg (fun q cA H1 hK hP hD hS => ?_)
  have e : cA = g.2.2.2 := by
    obtain ⟨_, _, _, _, _, h1⟩ := (hK.2 3 (cA, .object "MidiDesk$Event") rfl).2
    obtain ⟨_, _, _, _, _, h2⟩ := (C.2.1.2 2 (g.2.2.2, .object "MidiDesk$Event") rfl).2
    exact Option.some.inj (h1.symm.trans h2)
  subst e
  exact kk q H1 hP hD hS
end AR
abbrev yA_copyOf : MethodName := ⟨"java/util/Arrays", "copyOf", "([II)[I"⟩
abbrev cA_copyOf : ByteArray := prog_18_method_123_code
theorem kA_copyOf : yA_copyOf.cls ≠ "java/lang/invoke/MethodHandle" ∧ yA_copyOf.cls ≠ "java/lang/invoke/VarHandle" ∧ (parseMethodDescriptor yA_copyOf.desc).map (fun d => d.parameters.length) = some 2 := by decide +kernel
theorem dA_copyOf_0 : decode cA_copyOf 0 = .ok (.iload_n 1, 1) := by decide +kernel
theorem dA_copyOf_1 : decode cA_copyOf 1 = .ok (.aload_n 0, 1) := by decide +kernel
theorem dA_copyOf_2 : decode cA_copyOf 2 = .ok (.arraylength, 1) := by decide +kernel
theorem dA_copyOf_3 : decode cA_copyOf 3 = .ok (.if_icmp .ne 11, 3) := by decide +kernel
theorem dA_copyOf_14 : decode cA_copyOf 14 = .ok (.iload_n 1, 1) := by decide +kernel
theorem dA_copyOf_15 : decode cA_copyOf 15 = .ok (.newarray .int, 2) := by decide +kernel
theorem dA_copyOf_17 : decode cA_copyOf 17 = .ok (.astore_n 2, 1) := by decide +kernel
theorem dA_copyOf_18 : decode cA_copyOf 18 = .ok (.aload_n 0, 1) := by decide +kernel
theorem dA_copyOf_19 : decode cA_copyOf 19 = .ok (.iconst 0, 1) := by decide +kernel
theorem dA_copyOf_20 : decode cA_copyOf 20 = .ok (.aload_n 2, 1) := by decide +kernel
theorem dA_copyOf_21 : decode cA_copyOf 21 = .ok (.iconst 0, 1) := by decide +kernel
theorem dA_copyOf_22 : decode cA_copyOf 22 = .ok (.aload_n 0, 1) := by decide +kernel
theorem dA_copyOf_23 : decode cA_copyOf 23 = .ok (.arraylength, 1) := by decide +kernel
theorem dA_copyOf_24 : decode cA_copyOf 24 = .ok (.iload_n 1, 1) := by decide +kernel
theorem dA_copyOf_25 : decode cA_copyOf 25 = .ok (.invokestatic 304, 3) := by decide +kernel
theorem dA_copyOf_28 : decode cA_copyOf 28 = .ok (.invokestatic 150, 3) := by decide +kernel
theorem dA_copyOf_31 : decode cA_copyOf 31 = .ok (.aload_n 2, 1) := by decide +kernel
theorem dA_copyOf_32 : decode cA_copyOf 32 = .ok (.areturn, 1) := by decide +kernel
set_option maxHeartbeats 4000000 in
set_option maxRecDepth 100000 in
/-- Arrays.copyOf to a length that is no less: one cell of N slots -/
theorem copyOf_met {l : Launch} {g : gT} {ws : va_W} {i0 a n N : Nat} {f : Nat → Int32} {x : Int32} (h0 : ws[i0]? = some (a, larr g n f)) (hx : ¬ x < 0) (hN : x.toNatClampNeg = N) (hn : n < N) (hb4 : N * 4 ≤ 536870912) (sz : Nat) :
    Met l yA_copyOf (.code yA_copyOf cA_copyOf 3 (some (.array .int)) :: gw) { frames := 1, cells := 1, slots := N, locals := 40 } (va_Pc [.ref a, .int x] (fun U => U.heap.size = sz ∧ kK g U ∧ va_P g.1 classes ws U.heap ∧ va_D (fun _ => True) ws)) (fun _ st oc t => (∃ q : Nat, oc = .returned (some (.ref q)) ∧ va_P g.1 classes (ws ++ [(q, larr g N (va_cpy f (fun _ => 0) 0 0 n))]) t.heap ∧ va_D (va_A ws sz) (ws ++ [(q, larr g N (va_cpy f (fun _ => 0) 0 0 n))])) ∧ va_F (va_A ws sz) st t) 1 N (va_A ws sz) := by
  refine Met.ofW (cc := cA_copyOf) (maxL := 3) (ret := some (.array .int)) (by decide) rfl ?_
  intro p e s m args below meth c s₁ B hml hv
  obtain ⟨rfl, hsz, hK, hP, hD0⟩ := hv
  subst hsz
  have hts := atoms_spec (ws := Cond.code yA_copyOf cA_copyOf 3 (some (.array .int)) :: gw) B.pre
  have hown : s.vm.findClass "java/util/Arrays" = some m.cls := findClass_of_methodNamed B.named
  have C : mCx p m c cA_copyOf 3 s [Value.ref a, Value.int x].toArray g "java/util/Arrays" := ⟨⟨B.exec, B.bytes, hml, hown, fun w hw => hts w (List.mem_cons_of_mem _ hw)⟩, hK⟩
  have hlk := B.notSynchronized
  have hr := B.returns
  have hD := hD0.self (sz := s.heap.size)
  have hS : va_S (va_A ws s.heap.size) s.heap s.heap [] := va_S.rf
  have hl := lv_entry [.ref a, .int x] (n := 3) (Nat.le_of_ble_eq_true rfl)
  rw [lg_entry_eq]
  generalize (lg_sl [.ref a, .int x] ++ List.replicate (3 - (lg_sl [.ref a, .int x]).length) Slot.unset).toArray = ls at hl ⊢
  have hl : lv_has ls 3 [(0, .ref a), (1, .int x)] := hl
  have hlt : i0 < ws.length := (List.getElem?_eq_some_iff.mp h0).1
  have hNx : x = nI N := by
    obtain ⟨j, hj, rfl⟩ := nI_of hx
    rw [nI_clamp hj] at hN
    rw [hN]
  have hN31 : N < 2 ^ 31 := by omega
  have hn31 : n < 2 ^ 31 := by omega
  refine lv_iload_n C.1.1 C.1.2.1 dA_copyOf_0 rfl (lv_at hl 1 rfl) ?_
  refine lv_aload_n C.1.1 C.1.2.1 dA_copyOf_1 rfl (lv_at hl 0 rfl) ?_
  refine va_alen C.1.1 C.1.2.1 C.2.1 hP i0 0 h0 (ty := .int) rfl rfl dA_copyOf_2 ?_
  refine lv_icmp_ne (tgt := 14) C.1.1 C.1.2.1 dA_copyOf_3 (by decide) (fun _ => ?_) (fun c1 => absurd ((nI_eq hN31 hn31).mp (by rw [← hNx]; exact c1)) (by omega))
  refine lv_iload_n C.1.1 C.1.2.1 dA_copyOf_14 rfl (lv_at hl 1 rfl) ?_
  refine x_newi C hP hD hS (fun y hy => Or.inr hy) hx hN hb4 (Nat.le_of_ble_eq_true rfl) (by show 0 + N ≤ N; omega) dA_copyOf_15 (fun q H hP hD hS => ?_)
  refine W.widen (k := 1) (n := N) (by omega) (by omega) ?_
  refine lv_astore_n (lv' := [(2, .ref q), (0, .ref a), (1, .int x)]) C.1.1 C.1.2.1 dA_copyOf_17 rfl hl (by decide) rfl (fun ls hl => ?_)
  refine lv_aload_n C.1.1 C.1.2.1 dA_copyOf_18 rfl (lv_at hl 1 rfl) ?_
  refine lv_iconst (v := 0) C.1.1 C.1.2.1 dA_copyOf_19 (by decide) ?_
  refine lv_aload_n C.1.1 C.1.2.1 dA_copyOf_20 rfl (lv_at hl 0 rfl) ?_
  refine lv_iconst (v := 0) C.1.1 C.1.2.1 dA_copyOf_21 (by decide) ?_
  refine lv_aload_n C.1.1 C.1.2.1 dA_copyOf_22 rfl (lv_at hl 1 rfl) ?_
  have ha0 : (ws ++ [(q, larr g N (fun _ => 0))])[i0]? = some (a, larr g n f) := by rw [List.getElem?_append_left hlt]; exact h0
  have ha1 : (ws ++ [(q, larr g N (fun _ => 0))])[ws.length]? = some (q, larr g N (fun _ => 0)) := by rw [List.getElem?_append_right (Nat.le_refl _), Nat.sub_self]; rfl
  refine va_alen C.1.1 C.1.2.1 C.2.1 hP i0 0 ha0 (ty := .int) rfl rfl dA_copyOf_23 ?_
  refine lv_iload_n C.1.1 C.1.2.1 dA_copyOf_24 rfl (lv_at hl 2 rfl) ?_
  refine va_mmin C.1.1 C.1.2.1 (by rw [hl.1]; exact C.1.2.2.1) C.1.2.2.2.1 (C.1.2.2.2.2 _ gw_173) (C.1.2.2.2.2 _ gw_174) (C.1.2.2.2.2 _ gw_57) (C.1.2.2.2.2 _ gw_175) (Nat.le_of_ble_eq_true rfl) (Nat.le_of_ble_eq_true rfl) (Nat.le_of_ble_eq_true rfl) (Nat.le_refl _) dA_copyOf_25 ?_
  have hm : (if x < Int32.ofNat n then x else Int32.ofNat n) = nI n := by
    rw [hNx]
    exact if_neg (show ¬ nI N < nI n from nI_nlt (Nat.le_of_lt hn) hN31)
  rw [hm]
  refine va_copyi C.1.1 C.1.2.1 (by rw [hl.1]; exact C.1.2.2.1) C.1.2.2.2.1 (C.1.2.2.2.2 _ gw_176) (C.1.2.2.2.2 _ gw_178) (C.1.2.2.2.2 _ gw_177) (C.1.2.2.2.2 _ gw_58) C.2.1 hP hD hS i0 ws.length 0 0 ha0 ha1 rfl rfl rfl (by decide) (by decide) (nI_pos hn31) (by rw [nI_clamp hn31]; show 0 + n ≤ n; omega) (by rw [nI_clamp hn31]; show 0 + n ≤ N; omega) (fun i _ => rfl) (Nat.le_of_ble_eq_true rfl) (Nat.le_of_ble_eq_true rfl) dA_copyOf_28 (fun H locs hP hD hS => ?_)
  refine lv_aload_n C.1.1 C.1.2.1 dA_copyOf_31 rfl (lv_at hl 0 rfl) ?_
  rw [nI_clamp hn31] at hP hD
  have e1 : (ws ++ [(q, larr g N (fun _ => 0))]).set ws.length (q, larr g N (va_cpy f (fun _ => 0) 0 0 n)) = ws ++ [(q, larr g N (va_cpy f (fun _ => 0) 0 0 n))] := by rw [List.set_append_right _ _ (Nat.le_refl _), Nat.sub_self]; rfl
  have hP : va_P g.1 classes ((ws ++ [(q, larr g N (fun _ => 0))]).set ws.length (q, larr g N (va_cpy f (fun _ => 0) 0 0 n))) H := hP
  have hD : va_D (va_A ws s.heap.size) ((ws ++ [(q, larr g N (fun _ => 0))]).set ws.length (q, larr g N (va_cpy f (fun _ => 0) 0 0 n))) := hD
  rw [e1] at hP hD
  exact W.aret C.1.1 C.1.2.1 hr (Or.inr ⟨_, rfl⟩) (Or.inr ⟨_, rfl⟩) (fun t ht hW => ⟨⟨q, rfl, by rw [ht]; exact hP, hD⟩, hS.F ht⟩) hS.2.2 dA_copyOf_32 hlk
