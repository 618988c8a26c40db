theorem ixN {n m : Nat} (h : n < m) (hb : n < 2147483648) : ¬ (nt n < 0 ∨ m ≤ (nt n).toNatClampNeg) := by
  rw [nt_neg hb, nt_cl hb]; simp; exact h

theorem j_put0 {h : cH} {z : cZ} {n : Nat} {x : Int32} (hs : zi z 0 = nt n) (hn : n < 2147483647) (hl : n < h.1 0) :
    jB0_put_41 h z x = some (h, zU (zA z 0 n (x &&& 255)) 0 (nt (n + 1))) := by
  unfold jB0_put_41
  rw [hs, if_neg (ixN hl (by omega)), nt_cl (by omega)]
  simp only [zi_A, hs]
  rw [show (1 : Int32) = nt 1 from rfl, nt_add]
theorem at0 {h : cH} {z : cZ} {n i : Nat} (hs : zi z 0 = nt n) (hn : n < 2147483647) (hl : n ≤ h.1 0) (hi : i < n) : fB0_at h z (nt i) = some (za z 0 i, z) := by
  unfold fB0_at
  rw [hs, if_neg (by rw [nt_neg (by omega)]; simp), if_neg (by rw [nt_le (by omega) (by omega)]; omega), if_neg (ixN (by omega) (by omega)), nt_cl (by omega)]

theorem j_put1 {h : cH} {z : cZ} {n : Nat} {x : Int32} (hs : zi z 1 = nt n) (hn : n < 2147483647) (hl : n < h.1 1) :
    jB1_put_41 h z x = some (h, zU (zA z 1 n (x &&& 255)) 1 (nt (n + 1))) := by
  unfold jB1_put_41
  rw [hs, if_neg (ixN hl (by omega)), nt_cl (by omega)]
  simp only [zi_A, hs]
  rw [show (1 : Int32) = nt 1 from rfl, nt_add]
theorem at1 {h : cH} {z : cZ} {n i : Nat} (hs : zi z 1 = nt n) (hn : n < 2147483647) (hl : n ≤ h.1 1) (hi : i < n) : fB1_at h z (nt i) = some (za z 1 i, z) := by
  unfold fB1_at
  rw [hs, if_neg (by rw [nt_neg (by omega)]; simp), if_neg (by rw [nt_le (by omega) (by omega)]; omega), if_neg (ixN (by omega) (by omega)), nt_cl (by omega)]

theorem j_put2 {h : cH} {z : cZ} {n : Nat} {x : Int32} (hs : zi z 2 = nt n) (hn : n < 2147483647) (hl : n < h.1 2) :
    jB2_put_41 h z x = some (h, zU (zA z 2 n (x &&& 255)) 2 (nt (n + 1))) := by
  unfold jB2_put_41
  rw [hs, if_neg (ixN hl (by omega)), nt_cl (by omega)]
  simp only [zi_A, hs]
  rw [show (1 : Int32) = nt 1 from rfl, nt_add]
theorem at2 {h : cH} {z : cZ} {n i : Nat} (hs : zi z 2 = nt n) (hn : n < 2147483647) (hl : n ≤ h.1 2) (hi : i < n) : fB2_at h z (nt i) = some (za z 2 i, z) := by
  unfold fB2_at
  rw [hs, if_neg (by rw [nt_neg (by omega)]; simp), if_neg (by rw [nt_le (by omega) (by omega)]; omega), if_neg (ixN (by omega) (by omega)), nt_cl (by omega)]

/-- what a put does -/
abbrev PutR (k M : Nat) (h : cH) (z : cZ) (h' : cH) (z' : cZ) (n : Nat) (v : Int32) : Prop := (zi z' = upd (zi z) k (nt (n + 1))) ∧ (∀ a, a ≠ k → za z' a = za z a) ∧ (∀ i, i < n → za z' k i = za z k i) ∧ (za z' k n = v) ∧ (zr z' = zr z) ∧ (ze z' = ze z) ∧ (h'.2.1 = h.2.1) ∧ (∀ a, a ≠ k → h'.1 a = h.1 a) ∧ (n + 1 ≤ h'.1 k) ∧ (64 ≤ h'.1 k) ∧ (h'.1 k ≤ 2 * M) ∧ (gr h h')
theorem PutR.ei {k M : Nat} {h : cH} {z : cZ} {h' : cH} {z' : cZ} {n : Nat} {v : Int32} (s : PutR k M h z h' z' n v) : zi z' = upd (zi z) k (nt (n + 1)) := s.1
theorem PutR.ea {k M : Nat} {h : cH} {z : cZ} {h' : cH} {z' : cZ} {n : Nat} {v : Int32} (s : PutR k M h z h' z' n v) : ∀ a, a ≠ k → za z' a = za z a := s.2.1
theorem PutR.eo {k M : Nat} {h : cH} {z : cZ} {h' : cH} {z' : cZ} {n : Nat} {v : Int32} (s : PutR k M h z h' z' n v) : ∀ i, i < n → za z' k i = za z k i := s.2.2.1
theorem PutR.ev {k M : Nat} {h : cH} {z : cZ} {h' : cH} {z' : cZ} {n : Nat} {v : Int32} (s : PutR k M h z h' z' n v) : za z' k n = v := s.2.2.2.1
theorem PutR.er {k M : Nat} {h : cH} {z : cZ} {h' : cH} {z' : cZ} {n : Nat} {v : Int32} (s : PutR k M h z h' z' n v) : zr z' = zr z := s.2.2.2.2.1
theorem PutR.ee {k M : Nat} {h : cH} {z : cZ} {h' : cH} {z' : cZ} {n : Nat} {v : Int32} (s : PutR k M h z h' z' n v) : ze z' = ze z := s.2.2.2.2.2.1
theorem PutR.en {k M : Nat} {h : cH} {z : cZ} {h' : cH} {z' : cZ} {n : Nat} {v : Int32} (s : PutR k M h z h' z' n v) : h'.2.1 = h.2.1 := s.2.2.2.2.2.2.1
theorem PutR.el {k M : Nat} {h : cH} {z : cZ} {h' : cH} {z' : cZ} {n : Nat} {v : Int32} (s : PutR k M h z h' z' n v) : ∀ a, a ≠ k → h'.1 a = h.1 a := s.2.2.2.2.2.2.2.1
theorem PutR.le {k M : Nat} {h : cH} {z : cZ} {h' : cH} {z' : cZ} {n : Nat} {v : Int32} (s : PutR k M h z h' z' n v) : n + 1 ≤ h'.1 k := s.2.2.2.2.2.2.2.2.1
theorem PutR.lo {k M : Nat} {h : cH} {z : cZ} {h' : cH} {z' : cZ} {n : Nat} {v : Int32} (s : PutR k M h z h' z' n v) : 64 ≤ h'.1 k := s.2.2.2.2.2.2.2.2.2.1
theorem PutR.up {k M : Nat} {h : cH} {z : cZ} {h' : cH} {z' : cZ} {n : Nat} {v : Int32} (s : PutR k M h z h' z' n v) : h'.1 k ≤ 2 * M := s.2.2.2.2.2.2.2.2.2.2.1
theorem PutR.gr {k M : Nat} {h : cH} {z : cZ} {h' : cH} {z' : cZ} {n : Nat} {v : Int32} (s : PutR k M h z h' z' n v) : gr h h' := s.2.2.2.2.2.2.2.2.2.2.2

theorem put0 {h : cH} {z : cZ} {n : Nat} {x : Int32} (hs : zi z 0 = nt n) (hn : n < 12000) (hl : n ≤ h.1 0) (h0 : 64 ≤ h.1 0) (hu : h.1 0 ≤ 24000) :
    ∃ h' z', fB0_put h z x = some (h', z') ∧ PutR 0 12000 h z h' z' n (x &&& 255) := by
  have e1 : (Int32.ofNat (h.1 0)) = nt (h.1 0) := rfl
  have e2 : (nt 2 * nt n) = nt (2 * n) := nt_mul
  unfold fB0_put
  rw [hs, e1]
  by_cases hc : n = h.1 0
  · refine ⟨hC (hL h 0 (2 * n)) 1 (2 * n), zU (zA (zF z 0 (va_cpy (za z 0) (fun _ => 0) 0 0 (h.1 0))) 0 n (x &&& 255)) 0 (nt (n + 1)), ?_, ?_⟩
    · rw [if_pos (by rw [lit, nt_lt (by omega) (by omega)]; exact hn), if_pos (by rw [hc]), lit, e2, if_neg, nt_cl (by omega), j_put0]
      · exact hs
      · omega
      · simp [hC, hL, updN]; omega
      · rw [nt_neg (by omega), nt_cl (by omega)]; simp; omega
    · refine ⟨?_, ?_, ?_, ?_, ?_, ?_, ?_, ?_, ?_, ?_, ?_, ?_⟩
      · simp only [zi_U, zi_A, zi_F]
      · intro a ha; simp only [za_U, za_A, za_F, up2, ha, if_false]
      · intro i hi; simp only [za_U, za_A, za_F, up2, if_true, upd]; rw [if_neg (by omega)]; simp [va_cpy]; omega
      · simp [za_U, za_A, za_F, up2, upd]
      · simp only [zr_U, zr_A, zr_F]
      · simp only [ze_U, ze_A, ze_F]
      · rfl
      · intro a ha; simp [hC, hL, updN, ha]
      · simp [hC, hL, updN]; omega
      · simp [hC, hL, updN]; omega
      · simp [hC, hL, updN]; omega
      · simp [gr, phi, hC, hL, updN]; omega
  · refine ⟨h, zU (zA z 0 n (x &&& 255)) 0 (nt (n + 1)), ?_, ?_⟩
    · rw [if_pos (by rw [lit, nt_lt (by omega) (by omega)]; exact hn), if_neg (by rw [nt_eq (by omega) (by omega)]; exact hc), j_put0 hs (by omega) (by omega)]
    · refine ⟨?_, ?_, ?_, ?_, ?_, ?_, ?_, ?_, ?_, ?_, ?_, ?_⟩
      · simp only [zi_U, zi_A]
      · intro a ha; simp only [za_U, za_A, up2, ha, if_false]
      · intro i hi; simp only [za_U, za_A, up2, if_true, upd]; rw [if_neg (by omega)]
      · simp [za_U, za_A, up2, upd]
      · simp only [zr_U, zr_A]
      · simp only [ze_U, ze_A]
      · rfl
      · intro a ha; rfl
      · omega
      · omega
      · omega
      · exact gr.refl h

theorem put1 {h : cH} {z : cZ} {n : Nat} {x : Int32} (hs : zi z 1 = nt n) (hn : n < 16384) (hl : n ≤ h.1 1) (h0 : 64 ≤ h.1 1) (hu : h.1 1 ≤ 32768) :
    ∃ h' z', fB1_put h z x = some (h', z') ∧ PutR 1 16384 h z h' z' n (x &&& 255) := by
  have e1 : (Int32.ofNat (h.1 1)) = nt (h.1 1) := rfl
  have e2 : (nt 2 * nt n) = nt (2 * n) := nt_mul
  unfold fB1_put
  rw [hs, e1]
  by_cases hc : n = h.1 1
  · refine ⟨hC (hL h 1 (2 * n)) 1 (2 * n), zU (zA (zF z 1 (va_cpy (za z 1) (fun _ => 0) 0 0 (h.1 1))) 1 n (x &&& 255)) 1 (nt (n + 1)), ?_, ?_⟩
    · rw [if_pos (by rw [lit, nt_lt (by omega) (by omega)]; exact hn), if_pos (by rw [hc]), lit, e2, if_neg, nt_cl (by omega), j_put1]
      · exact hs
      · omega
      · simp [hC, hL, updN]; omega
      · rw [nt_neg (by omega), nt_cl (by omega)]; simp; omega
    · refine ⟨?_, ?_, ?_, ?_, ?_, ?_, ?_, ?_, ?_, ?_, ?_, ?_⟩
      · simp only [zi_U, zi_A, zi_F]
      · intro a ha; simp only [za_U, za_A, za_F, up2, ha, if_false]
      · intro i hi; simp only [za_U, za_A, za_F, up2, if_true, upd]; rw [if_neg (by omega)]; simp [va_cpy]; omega
      · simp [za_U, za_A, za_F, up2, upd]
      · simp only [zr_U, zr_A, zr_F]
      · simp only [ze_U, ze_A, ze_F]
      · rfl
      · intro a ha; simp [hC, hL, updN, ha]
      · simp [hC, hL, updN]; omega
      · simp [hC, hL, updN]; omega
      · simp [hC, hL, updN]; omega
      · simp [gr, phi, hC, hL, updN]; omega
  · refine ⟨h, zU (zA z 1 n (x &&& 255)) 1 (nt (n + 1)), ?_, ?_⟩
    · rw [if_pos (by rw [lit, nt_lt (by omega) (by omega)]; exact hn), if_neg (by rw [nt_eq (by omega) (by omega)]; exact hc), j_put1 hs (by omega) (by omega)]
    · refine ⟨?_, ?_, ?_, ?_, ?_, ?_, ?_, ?_, ?_, ?_, ?_, ?_⟩
      · simp only [zi_U, zi_A]
      · intro a ha; simp only [za_U, za_A, up2, ha, if_false]
      · intro i hi; simp only [za_U, za_A, up2, if_true, upd]; rw [if_neg (by omega)]
      · simp [za_U, za_A, up2, upd]
      · simp only [zr_U, zr_A]
      · simp only [ze_U, ze_A]
      · rfl
      · intro a ha; rfl
      · omega
      · omega
      · omega
      · exact gr.refl h

theorem put2 {h : cH} {z : cZ} {n : Nat} {x : Int32} (hs : zi z 2 = nt n) (hn : n < 8000) (hl : n ≤ h.1 2) (h0 : 64 ≤ h.1 2) (hu : h.1 2 ≤ 16000) :
    ∃ h' z', fB2_put h z x = some (h', z') ∧ PutR 2 8000 h z h' z' n (x &&& 255) := by
  have e1 : (Int32.ofNat (h.1 2)) = nt (h.1 2) := rfl
  have e2 : (nt 2 * nt n) = nt (2 * n) := nt_mul
  unfold fB2_put
  rw [hs, e1]
  by_cases hc : n = h.1 2
  · refine ⟨hC (hL h 2 (2 * n)) 1 (2 * n), zU (zA (zF z 2 (va_cpy (za z 2) (fun _ => 0) 0 0 (h.1 2))) 2 n (x &&& 255)) 2 (nt (n + 1)), ?_, ?_⟩
    · rw [if_pos (by rw [lit, nt_lt (by omega) (by omega)]; exact hn), if_pos (by rw [hc]), lit, e2, if_neg, nt_cl (by omega), j_put2]
      · exact hs
      · omega
      · simp [hC, hL, updN]; omega
      · rw [nt_neg (by omega), nt_cl (by omega)]; simp; omega
    · refine ⟨?_, ?_, ?_, ?_, ?_, ?_, ?_, ?_, ?_, ?_, ?_, ?_⟩
      · simp only [zi_U, zi_A, zi_F]
      · intro a ha; simp only [za_U, za_A, za_F, up2, ha, if_false]
      · intro i hi; simp only [za_U, za_A, za_F, up2, if_true, upd]; rw [if_neg (by omega)]; simp [va_cpy]; omega
      · simp [za_U, za_A, za_F, up2, upd]
      · simp only [zr_U, zr_A, zr_F]
      · simp only [ze_U, ze_A, ze_F]
      · rfl
      · intro a ha; simp [hC, hL, updN, ha]
      · simp [hC, hL, updN]; omega
      · simp [hC, hL, updN]; omega
      · simp [hC, hL, updN]; omega
      · simp [gr, phi, hC, hL, updN]; omega
  · refine ⟨h, zU (zA z 2 n (x &&& 255)) 2 (nt (n + 1)), ?_, ?_⟩
    · rw [if_pos (by rw [lit, nt_lt (by omega) (by omega)]; exact hn), if_neg (by rw [nt_eq (by omega) (by omega)]; exact hc), j_put2 hs (by omega) (by omega)]
    · refine ⟨?_, ?_, ?_, ?_, ?_, ?_, ?_, ?_, ?_, ?_, ?_, ?_⟩
      · simp only [zi_U, zi_A]
      · intro a ha; simp only [za_U, za_A, up2, ha, if_false]
      · intro i hi; simp only [za_U, za_A, up2, if_true, upd]; rw [if_neg (by omega)]
      · simp [za_U, za_A, up2, upd]
      · simp only [zr_U, zr_A]
      · simp only [ze_U, ze_A]
      · rfl
      · intro a ha; rfl
      · omega
      · omega
      · omega
      · exact gr.refl h
