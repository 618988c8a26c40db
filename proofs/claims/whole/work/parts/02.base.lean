theorem ts_t {α : Type} {c : Prop} [Decidable c] {a b : Option α} {r : α} (h : (if c then a else b) = some r) (hc : c) : a = some r := by rw [if_pos hc] at h; exact h
theorem ts_f {α : Type} {c : Prop} [Decidable c] {a b : Option α} {r : α} (h : (if c then a else b) = some r) (hc : ¬ c) : b = some r := by rw [if_neg hc] at h; exact h
theorem ts_g {α : Type} {c : Prop} [Decidable c] {a : Option α} {r : α} (h : (if c then none else a) = some r) : ¬ c ∧ a = some r := by
  by_cases hc : c
  · rw [if_pos hc] at h; cases h
  · rw [if_neg hc] at h; exact ⟨hc, h⟩
theorem ts_b {α β : Type} {o : Option α} {f : α → Option β} {b : β} (h : o.bind f = some b) : ∃ a, o = some a ∧ f a = some b := Option.bind_eq_some_iff.mp h
/-- the words that a call hands on: all of the tables that keep -/
def gw : List Cond := lw_tbl.filter goodWord
theorem gw_good : ∀ w ∈ gw, goodWord w = true := fun w h => (List.mem_filter.mp h).2
theorem gw_in {w : Cond} (i : Nat) (h : lw_tbl[i]? = some w) (hg : goodWord w = true) : w ∈ gw := List.mem_filter.mpr ⟨List.mem_of_getElem? h, hg⟩
theorem gw_GI {c : Cond} (hc : c ∈ gw) : GoodIn gw (c :: gw) := fun w hw => by
  have hm : w ∈ gw := (List.mem_cons.mp hw).elim (fun e => e ▸ hc) id
  exact ⟨hm, good_of_word (gw_good w hm)⟩
def is_nest : Cond → Bool
  | .fieldLinkNest .. => true
  | .methodLinkNest .. => true
  | _ => false
def nestw : List Cond := tables_1.filter is_nest
theorem nest_onT {w : Cond} (h : is_nest w = true) : w.onTables = true := by
  cases w <;> first | rfl | (simp [is_nest] at h)
theorem nest_warm {w : Cond} (h : is_nest w = true) {s U : State} (hW : s.WarmedH U.vm) (hZ : va_Nw w s) : va_Nw w U := by
  cases w <;> first | exact va_Nw.warmF hW hZ | exact va_Nw.warmM hW hZ | (simp [is_nest] at h)
/-- an array of counts, and of rows -/
def up2 (av : Nat → Nat → Int32) (k i : Nat) (x : Int32) : Nat → Nat → Int32 := fun a => if a = k then upd (av k) i x else av a
theorem va_D_map {A : Nat → Prop} {ws ws' : va_W} (e : ws.map Prod.fst = ws'.map Prod.fst) (h : va_D A ws) : va_D A ws' := by
  have key : ∀ (k : Nat) (q : Nat × va_E), ws'[k]? = some q → ∃ q0, ws[k]? = some q0 ∧ q0.1 = q.1 := by
    intro k q hk
    have h1 : (ws'.map Prod.fst)[k]? = some q.1 := by rw [List.getElem?_map, hk]; rfl
    rw [← e, List.getElem?_map] at h1
    cases hq : ws[k]? with
    | none => rw [hq] at h1; cases h1
    | some q0 => rw [hq] at h1; exact ⟨q0, rfl, Option.some.inj h1⟩
  refine ⟨fun i j x y hi hj hxy => ?_, fun k q hk => ?_⟩
  · obtain ⟨x0, h1, h2⟩ := key i x hi
    obtain ⟨y0, h3, h4⟩ := key j y hj
    exact h.1 i j x0 y0 h1 h3 (h2.trans (hxy.trans h4.symm))
  · obtain ⟨q0, h1, h2⟩ := key k q hk
    rw [← h2]; exact h.2 k q0 h1
theorem va_A_map {ws ws' : va_W} {sz : Nat} (e : ws.map Prod.fst = ws'.map Prod.fst) : va_A ws sz = va_A ws' sz := by
  have key : ∀ {a b : va_W}, a.map Prod.fst = b.map Prod.fst → ∀ q, va_A a sz q → va_A b sz q := by
    intro a b e q h
    rcases h with ⟨k, x, h⟩ | h
    · have h1 : (a.map Prod.fst)[k]? = some q := by rw [List.getElem?_map, h]; rfl
      rw [e, List.getElem?_map] at h1
      cases hq : b[k]? with
      | none => rw [hq] at h1; cases h1
      | some q0 =>
        rw [hq] at h1
        obtain ⟨z, w⟩ := q0
        have hz : z = q := Option.some.inj h1
        subst hz
        exact Or.inl ⟨k, w, hq⟩
    · exact Or.inr h
  funext q
  exact propext ⟨key e q, key e.symm q⟩

def R_Bytes : String := "MidiDesk$Bytes"
def F_Bytes : u_T := fun k => match k with
  | 0 => ("MidiDesk$Bytes", "most", "I", true)
  | 1 => ("MidiDesk$Bytes", "row", "[I", false)
  | _ => ("MidiDesk$Bytes", "size", "I", false)
def t_Bytes : Nat → FieldType := fun k => match k with
  | 0 => .int
  | 1 => .array .int
  | _ => .int
theorem n_Bytes : ∀ a, a < 3 → ∀ b, b < 3 → a ≠ b → (F_Bytes a).2.1 ≠ (F_Bytes b).2.1 := by decide +kernel
theorem t_Bytes_ok : ∀ k, k < 3 → parseFieldDescriptor (F_Bytes k).2.2.1 = some (t_Bytes k) := by decide +kernel
def R_Event : String := "MidiDesk$Event"
def F_Event : u_T := fun k => match k with
  | 0 => ("MidiDesk$Event", "tick", "I", false)
  | 1 => ("MidiDesk$Event", "track", "I", false)
  | 2 => ("MidiDesk$Event", "status", "I", false)
  | 3 => ("MidiDesk$Event", "first", "I", false)
  | 4 => ("MidiDesk$Event", "second", "I", false)
  | 5 => ("MidiDesk$Event", "start", "I", false)
  | _ => ("MidiDesk$Event", "size", "I", false)
def t_Event : Nat → FieldType := fun k => match k with
  | 0 => .int
  | 1 => .int
  | 2 => .int
  | 3 => .int
  | 4 => .int
  | 5 => .int
  | _ => .int
theorem n_Event : ∀ a, a < 7 → ∀ b, b < 7 → a ≠ b → (F_Event a).2.1 ≠ (F_Event b).2.1 := by decide +kernel
theorem t_Event_ok : ∀ k, k < 7 → parseFieldDescriptor (F_Event k).2.2.1 = some (t_Event k) := by decide +kernel
def R_Parser : String := "MidiDesk$Parser"
def F_Parser : u_T := fun k => match k with
  | 0 => ("MidiDesk$Parser", "input", "LMidiDesk$Bytes;", true)
  | 1 => ("MidiDesk$Parser", "score", "LMidiDesk$Score;", true)
  | 2 => ("MidiDesk$Parser", "pos", "I", false)
  | 3 => ("MidiDesk$Parser", "end", "I", false)
  | 4 => ("MidiDesk$Parser", "fault", "I", false)
  | 5 => ("MidiDesk$Parser", "tracksSeen", "I", false)
  | 6 => ("MidiDesk$Parser", "tick", "I", false)
  | 7 => ("MidiDesk$Parser", "running", "I", false)
  | 8 => ("MidiDesk$Parser", "ended", "Z", false)
  | 9 => ("MidiDesk$Parser", "first", "I", false)
  | 10 => ("MidiDesk$Parser", "second", "I", false)
  | 11 => ("MidiDesk$Parser", "start", "I", false)
  | _ => ("MidiDesk$Parser", "size", "I", false)
def t_Parser : Nat → FieldType := fun k => match k with
  | 0 => .object "MidiDesk$Bytes"
  | 1 => .object "MidiDesk$Score"
  | 2 => .int
  | 3 => .int
  | 4 => .int
  | 5 => .int
  | 6 => .int
  | 7 => .int
  | 8 => .boolean
  | 9 => .int
  | 10 => .int
  | 11 => .int
  | _ => .int
theorem n_Parser : ∀ a, a < 13 → ∀ b, b < 13 → a ≠ b → (F_Parser a).2.1 ≠ (F_Parser b).2.1 := by decide +kernel
theorem t_Parser_ok : ∀ k, k < 13 → parseFieldDescriptor (F_Parser k).2.2.1 = some (t_Parser k) := by decide +kernel
def R_Printer : String := "MidiDesk$Printer"
def F_Printer : u_T := fun k => match k with
  | 0 => ("MidiDesk$Printer", "score", "LMidiDesk$Score;", true)
  | 1 => ("MidiDesk$Printer", "output", "LMidiDesk$Bytes;", true)
  | 2 => ("MidiDesk$Printer", "brief", "Z", true)
  | 3 => ("MidiDesk$Printer", "tick", "I", false)
  | _ => ("MidiDesk$Printer", "running", "I", false)
def t_Printer : Nat → FieldType := fun k => match k with
  | 0 => .object "MidiDesk$Score"
  | 1 => .object "MidiDesk$Bytes"
  | 2 => .boolean
  | 3 => .int
  | _ => .int
theorem n_Printer : ∀ a, a < 5 → ∀ b, b < 5 → a ≠ b → (F_Printer a).2.1 ≠ (F_Printer b).2.1 := by decide +kernel
theorem t_Printer_ok : ∀ k, k < 5 → parseFieldDescriptor (F_Printer k).2.2.1 = some (t_Printer k) := by decide +kernel
def R_Score : String := "MidiDesk$Score"
def F_Score : u_T := fun k => match k with
  | 0 => ("MidiDesk$Score", "data", "LMidiDesk$Bytes;", true)
  | 1 => ("MidiDesk$Score", "present", "Z", false)
  | 2 => ("MidiDesk$Score", "format", "I", false)
  | 3 => ("MidiDesk$Score", "tracks", "I", false)
  | 4 => ("MidiDesk$Score", "division", "I", false)
  | 5 => ("MidiDesk$Score", "row", "[LMidiDesk$Event;", false)
  | 6 => ("MidiDesk$Score", "spare", "[LMidiDesk$Event;", false)
  | _ => ("MidiDesk$Score", "size", "I", false)
def t_Score : Nat → FieldType := fun k => match k with
  | 0 => .object "MidiDesk$Bytes"
  | 1 => .boolean
  | 2 => .int
  | 3 => .int
  | 4 => .int
  | 5 => .array (.object "MidiDesk$Event")
  | 6 => .array (.object "MidiDesk$Event")
  | _ => .int
theorem n_Score : ∀ a, a < 8 → ∀ b, b < 8 → a ≠ b → (F_Score a).2.1 ≠ (F_Score b).2.1 := by decide +kernel
theorem t_Score_ok : ∀ k, k < 8 → parseFieldDescriptor (F_Score k).2.2.1 = some (t_Score k) := by decide +kernel
def R_Desk : String := "MidiDesk"
def F_Desk : u_T := fun k => match k with
  | 0 => ("MidiDesk", "input", "LMidiDesk$Bytes;", true)
  | 1 => ("MidiDesk", "output", "LMidiDesk$Bytes;", true)
  | _ => ("MidiDesk", "score", "LMidiDesk$Score;", true)
def t_Desk : Nat → FieldType := fun k => match k with
  | 0 => .object "MidiDesk$Bytes"
  | 1 => .object "MidiDesk$Bytes"
  | _ => .object "MidiDesk$Score"
theorem n_Desk : ∀ a, a < 3 → ∀ b, b < 3 → a ≠ b → (F_Desk a).2.1 ≠ (F_Desk b).2.1 := by decide +kernel
theorem t_Desk_ok : ∀ k, k < 3 → parseFieldDescriptor (F_Desk k).2.2.1 = some (t_Desk k) := by decide +kernel
def R_Model : String := "MidiDeskModel"
def F_Model : u_T := fun k => match k with
  | 0 => ("MidiDeskModel", "thrown", "I", false)
  | 1 => ("MidiDeskModel", "input", "[I", true)
  | 2 => ("MidiDeskModel", "size", "I", false)
  | 3 => ("MidiDeskModel", "at", "I", false)
  | 4 => ("MidiDeskModel", "end", "I", false)
  | 5 => ("MidiDeskModel", "fault", "I", false)
  | 6 => ("MidiDeskModel", "place", "I", false)
  | 7 => ("MidiDeskModel", "there", "Z", false)
  | 8 => ("MidiDeskModel", "format", "I", false)
  | 9 => ("MidiDeskModel", "tracks", "I", false)
  | 10 => ("MidiDeskModel", "division", "I", false)
  | 11 => ("MidiDeskModel", "events", "I", false)
  | 12 => ("MidiDeskModel", "many", "I", false)
  | 13 => ("MidiDeskModel", "ticks", "[I", true)
  | 14 => ("MidiDeskModel", "trackOf", "[I", true)
  | 15 => ("MidiDeskModel", "status", "[I", true)
  | 16 => ("MidiDeskModel", "first", "[I", true)
  | 17 => ("MidiDeskModel", "second", "[I", true)
  | 18 => ("MidiDeskModel", "from", "[I", true)
  | 19 => ("MidiDeskModel", "counts", "[I", true)
  | 20 => ("MidiDeskModel", "order", "[I", true)
  | 21 => ("MidiDeskModel", "spare", "[I", true)
  | 22 => ("MidiDeskModel", "bytes", "[I", true)
  | 23 => ("MidiDeskModel", "written", "[I", true)
  | _ => ("MidiDeskModel", "writtenSize", "I", false)
def t_Model : Nat → FieldType := fun k => match k with
  | 0 => .int
  | 1 => .array .int
  | 2 => .int
  | 3 => .int
  | 4 => .int
  | 5 => .int
  | 6 => .int
  | 7 => .boolean
  | 8 => .int
  | 9 => .int
  | 10 => .int
  | 11 => .int
  | 12 => .int
  | 13 => .array .int
  | 14 => .array .int
  | 15 => .array .int
  | 16 => .array .int
  | 17 => .array .int
  | 18 => .array .int
  | 19 => .array .int
  | 20 => .array .int
  | 21 => .array .int
  | 22 => .array .int
  | 23 => .array .int
  | _ => .int
theorem n_Model : ∀ a, a < 25 → ∀ b, b < 25 → a ≠ b → (F_Model a).2.1 ≠ (F_Model b).2.1 := by decide +kernel
theorem t_Model_ok : ∀ k, k < 25 → parseFieldDescriptor (F_Model k).2.2.1 = some (t_Model k) := by decide +kernel
abbrev classes : List vw_C := [(R_Bytes, F_Bytes, 3), (R_Event, F_Event, 7), (R_Parser, F_Parser, 13), (R_Printer, F_Printer, 5), (R_Score, F_Score, 8), (R_Desk, F_Desk, 3), (R_Model, F_Model, 25)]
/-- the classes' numbers and slots, and the numbers of the array classes int[], long[], Event[] -/
abbrev gT : Type := va_G × ClassId × ClassId × ClassId
def kK (g : gT) (U : State) : Prop := va_K g.1 classes [(g.2.1, .int), (g.2.2.1, .long), (g.2.2.2, .object "MidiDesk$Event")] U ∧ (∀ w ∈ nestw, va_Nw w U) ∧ va_AO "MidiDesk$Event" U
theorem kK.moved {g : gT} {s U : State} (hW : s.WarmedH U.vm) (h : kK g s) : kK g U := ⟨va_K.moved hW.alike h.1, fun w hw => nest_warm (List.mem_filter.mp hw).2 hW (h.2.1 w hw), h.2.2.moved hW.alike⟩
theorem kK.same {g : gT} {s U : State} (e : s.vm = U.vm) (h : kK g s) : kK g U := ⟨va_K.moved (by rw [← e]; exact Vm.Alike.refl s.vm) h.1, fun w hw => va_Nw.same (nest_onT (List.mem_filter.mp hw).2) e (h.2.1 w hw), h.2.2.moved (by rw [← e]; exact Vm.Alike.refl s.vm)⟩
section CX
variable {p : Program} {l : Launch} {e : Env} {R : Room} {s : State} {m : MethodId} {args : Array Value} {below : List Frame} {meth : Method} {c : Code} {H : Heap} {locs : List Loc} {cells slots : Nat} {Q : State → Prop}
abbrev mCx (p : Program) (m : MethodId) (c : Code) (cc : ByteArray) (nL : Nat) (s : State) (args : Array Value) (g : gT) (own : String) : Prop := CallFix p m c cc nL s args gw own ∧ kK g s
theorem callW_of {own C : String} {index maxL : Nat} {y : MethodName} {bytes : ByteArray} {ret : Option FieldType} {rm : Room} (n : Nat) (ht : ∀ w ∈ gw, w.before args s = true) (h1 : Cond.methodLink own index y ∈ gw) (h2 : Cond.instanceMethod y ∈ gw) (h3 : Cond.selects C y y ∈ gw) (h4 : Cond.initialized y.cls ∈ gw) (h5 : Cond.code y bytes maxL ret ∈ gw)
    (hd : y.cls ≠ "java/lang/invoke/MethodHandle" ∧ y.cls ≠ "java/lang/invoke/VarHandle" ∧ (parseMethodDescriptor y.desc).map (fun d => d.parameters.length) = some n) (hR : rm.frames + 1 ≤ R.frames ∧ 8 + (maxL + 11) + rm.locals ≤ R.locals) :
    CallW R s args own C index y bytes maxL ret (Cond.code y bytes maxL ret :: gw) rm rm.cells rm.slots n :=
  ⟨callB_of n ht (gw_GI h5) rfl rfl rfl (ht _ h4) (ht _ h1) hd hR, ht _ h2, ht _ h3⟩
theorem callS_of {own : String} {index maxL : Nat} {y : MethodName} {bytes : ByteArray} {ret : Option FieldType} {rm : Room} (n : Nat) (ht : ∀ w ∈ gw, w.before args s = true) (h1 : Cond.methodLink own index y ∈ gw) (h2 : Cond.static y ∈ gw) (h4 : Cond.initialized y.cls ∈ gw) (h5 : Cond.code y bytes maxL ret ∈ gw)
    (hd : y.cls ≠ "java/lang/invoke/MethodHandle" ∧ y.cls ≠ "java/lang/invoke/VarHandle" ∧ (parseMethodDescriptor y.desc).map (fun d => d.parameters.length) = some n) (hR : rm.frames + 1 ≤ R.frames ∧ 8 + (maxL + 11) + rm.locals ≤ R.locals) :
    CallB R s args own index y bytes maxL ret (Cond.code y bytes maxL ret :: gw) rm rm.cells rm.slots n ∧ (Cond.static y).before args s = true :=
  ⟨callB_of n ht (gw_GI h5) rfl rfl rfl (ht _ h4) (ht _ h1) hd hR, ht _ h2⟩
variable {pc : Nat} {ls : Array Slot} {rest st0 : List Value} {A0 A1 : Nat → Prop} {H0 : Heap} {mc ms : Nat} {free : Addr → Prop}
theorem x_call {rv : Option Value} {B : Heap → Prop} (hr : va_Run p l e R s m args below meth c H locs cells slots mc ms (F0 m pc ls st0) rest (fun st oc t => (oc = .returned rv ∧ B t.heap) ∧ va_F A1 st t) free) (hS : va_S A0 H0 H locs) (hA : ∀ q, q < H.size → A1 q → A0 q) (hf : ∀ q, free q → A0 q)
    (kk : ∀ (H1 : Heap) (locs1 : List Loc), B H1 → va_S A0 H0 H1 locs1 → W p l e R s m args below meth c H1 locs1 (cells + mc) (slots + ms) Q (F0 m (pc + 3) ls (rv.toList ++ rest))) : W p l e R s m args below meth c H locs cells slots Q (F0 m pc ls st0) := by
  intro T hT X
  obtain ⟨v, st₀, t, T', L, h0, X', hL, e1, e2, ⟨⟨hv, hb⟩, hz, hk⟩, st⟩ := hr T hT X
  cases hv
  rw [h0] at hz hk
  obtain ⟨t2, a1, b1⟩ := kk T'.heap (locs ++ L) (by rw [e1]; exact hb)
    ⟨Nat.le_trans hS.1 (by rw [e1]; exact hz), fun q h1 h2 => by rw [e1, hk q (Nat.lt_of_lt_of_le h1 hS.1) (fun z => h2 (hA q (Nat.lt_of_lt_of_le h1 hS.1) z))]; exact hS.2.1 q h1 h2, fun q hq => by
      rcases List.mem_append.mp hq with h | h
      · exact hS.2.2 q h
      · exact hf _ (hL q h)⟩ T' rfl X'
  exact ⟨t2, st t2 a1, b1⟩
end CX
