/-- a count, as an int -/
def nt (n : Nat) : Int32 := Int32.ofNat n
/-- a count, as a long -/
def mt (n : Nat) : Int64 := Int64.ofNat n
theorem nt_toInt {n : Nat} (h : n < 2147483648) : (nt n).toInt = n := Int32.toInt_ofNat_of_lt h
theorem mt_toInt {n : Nat} (h : n < 9223372036854775808) : (mt n).toInt = n := Int64.toInt_ofNat_of_lt h
theorem lit (n : Nat) : (@OfNat.ofNat Int32 n Int32.instOfNat) = nt (@OfNat.ofNat Nat n (instOfNatNat n)) := rfl
theorem lit6 (n : Nat) : (@OfNat.ofNat Int64 n Int64.instOfNat) = mt (@OfNat.ofNat Nat n (instOfNatNat n)) := rfl
theorem nt_le {a b : Nat} (ha : a < 2147483648) (hb : b < 2147483648) : (nt a ≤ nt b) = (a ≤ b) := by
  rw [Int32.le_iff_toInt_le, nt_toInt ha, nt_toInt hb]; exact propext ⟨by omega, by omega⟩
theorem nt_lt {a b : Nat} (ha : a < 2147483648) (hb : b < 2147483648) : (nt a < nt b) = (a < b) := by
  rw [Int32.lt_iff_toInt_lt, nt_toInt ha, nt_toInt hb]; exact propext ⟨by omega, by omega⟩
theorem nt_eq {a b : Nat} (ha : a < 2147483648) (hb : b < 2147483648) : (nt a = nt b) = (a = b) := by
  refine propext ⟨fun h => ?_, fun h => by rw [h]⟩
  have := congrArg Int32.toInt h; rw [nt_toInt ha, nt_toInt hb] at this; omega
theorem nt_neg {a : Nat} (ha : a < 2147483648) : (nt a < 0) = False := by
  rw [lit, nt_lt ha (by omega)]; exact propext ⟨by omega, by simp⟩
theorem nt_inj {a b : Nat} (h : nt a = nt b) (ha : a < 2147483648) (hb : b < 2147483648) : a = b := (nt_eq ha hb).mp h
theorem mt_le {a b : Nat} (ha : a < 9223372036854775808) (hb : b < 9223372036854775808) : (mt a ≤ mt b) = (a ≤ b) := by
  rw [Int64.le_iff_toInt_le, mt_toInt ha, mt_toInt hb]; exact propext ⟨by omega, by omega⟩
theorem mt_lt {a b : Nat} (ha : a < 9223372036854775808) (hb : b < 9223372036854775808) : (mt a < mt b) = (a < b) := by
  rw [Int64.lt_iff_toInt_lt, mt_toInt ha, mt_toInt hb]; exact propext ⟨by omega, by omega⟩
theorem mt_eq {a b : Nat} (ha : a < 9223372036854775808) (hb : b < 9223372036854775808) : (mt a = mt b) = (a = b) := by
  refine propext ⟨fun h => ?_, fun h => by rw [h]⟩
  have := congrArg Int64.toInt h; rw [mt_toInt ha, mt_toInt hb] at this; omega
theorem nt_add {a b : Nat} : nt a + nt b = nt (a + b) := (Int32.ofNat_add a b).symm
theorem nt_mul {a b : Nat} : nt a * nt b = nt (a * b) := (Int32.ofNat_mul a b).symm
theorem nt_sub {a b : Nat} (h : b ≤ a) : nt a - nt b = nt (a - b) := by
  have e : nt a = nt (a - b) + nt b := by rw [nt_add]; congr 1; omega
  rw [e]; exact Int32.add_sub_cancel _ _
theorem mt_add {a b : Nat} : mt a + mt b = mt (a + b) := (Int64.ofNat_add a b).symm
theorem mt_mul {a b : Nat} : mt a * mt b = mt (a * b) := (Int64.ofNat_mul a b).symm
theorem nt_cl {n : Nat} (h : n < 2147483648) : (nt n).toNatClampNeg = n := by
  rw [Int32.toNatClampNeg, nt_toInt h]; rfl
theorem nt_64 {n : Nat} (h : n < 2147483648) : (nt n).toInt64 = mt n := by
  apply Int64.toInt.inj; rw [Int32.toInt_toInt64, nt_toInt h, mt_toInt (by omega)]
theorem mt_32 {n : Nat} : (mt n).toInt32 = nt n := by
  simp [mt, nt]
theorem nt_of {x : Int32} (h : 0 ≤ x.toInt) : x = nt x.toNatClampNeg := by
  apply Int32.toInt.inj
  have := Int32.toInt_lt x
  rw [nt_toInt] <;> simp only [Int32.toNatClampNeg] <;> omega
theorem nt_bv {n : Nat} : (nt n).toBitVec = BitVec.ofNat 32 n := rfl
theorem mt_bv {n : Nat} : (mt n).toBitVec = BitVec.ofNat 64 n := rfl
theorem nt_and {a b : Nat} : nt a &&& nt b = nt (a &&& b) := by
  apply Int32.toBitVec.inj; simp [nt_bv]
theorem nt_or {a b : Nat} : nt a ||| nt b = nt (a ||| b) := by
  apply Int32.toBitVec.inj; simp [nt_bv]
theorem nt_bvm {n : Nat} (h : n < 4294967296) : (nt n).toBitVec.toNat = n := by rw [nt_bv, BitVec.toNat_ofNat]; exact Nat.mod_eq_of_lt h
theorem sh_m {k : Nat} (hk : k < 32) : (nt k).toBitVec.smod 32 = BitVec.ofNat 32 k := by
  have : ∀ k : Fin 32, (nt k.val).toBitVec.smod 32 = BitVec.ofNat 32 k.val := by decide +kernel
  exact this ⟨k, hk⟩
theorem sh_m6 {k : Nat} (hk : k < 64) : (mt k).toBitVec.smod 64 = BitVec.ofNat 64 k := by
  have : ∀ k : Fin 64, (mt k.val).toBitVec.smod 64 = BitVec.ofNat 64 k.val := by decide +kernel
  exact this ⟨k, hk⟩
theorem nt_shl {a k : Nat} (hk : k < 32) : nt a <<< nt k = nt (a * 2 ^ k) := by
  apply Int32.toBitVec.inj
  rw [Int32.toBitVec_shiftLeft, sh_m hk]
  apply BitVec.eq_of_toNat_eq
  rw [BitVec.shiftLeft_eq', BitVec.toNat_shiftLeft, nt_bv, nt_bv, BitVec.toNat_ofNat, BitVec.toNat_ofNat, BitVec.toNat_ofNat, Nat.mod_eq_of_lt (a := k) (by omega), Nat.shiftLeft_eq]
  simp
theorem nt_shr {a k : Nat} (ha : a < 2147483648) (hk : k < 32) : nt a >>> nt k = nt (a / 2 ^ k) := by
  apply Int32.toBitVec.inj
  rw [Int32.toBitVec_shiftRight, sh_m hk]
  apply BitVec.eq_of_toNat_eq
  have hm : (BitVec.ofNat 32 a).msb = false := by rw [BitVec.msb_eq_decide]; simp; omega
  rw [BitVec.sshiftRight_eq', BitVec.sshiftRight_eq_of_msb_false (by rw [nt_bv]; exact hm), BitVec.toNat_ushiftRight, nt_bv, nt_bv, BitVec.toNat_ofNat, BitVec.toNat_ofNat, BitVec.toNat_ofNat, Nat.mod_eq_of_lt (a := k) (by omega), Nat.mod_eq_of_lt (a := a) (by omega), Nat.shiftRight_eq_div_pow, Nat.mod_eq_of_lt]
  have := Nat.div_le_self a (2 ^ k); omega
theorem mt_and {a b : Nat} : mt a &&& mt b = mt (a &&& b) := by
  apply Int64.toBitVec.inj; simp [mt_bv]
theorem mt_or {a b : Nat} : mt a ||| mt b = mt (a ||| b) := by
  apply Int64.toBitVec.inj; simp [mt_bv]
theorem mt_shl {a k : Nat} (hk : k < 64) : mt a <<< mt k = mt (a * 2 ^ k) := by
  apply Int64.toBitVec.inj
  rw [Int64.toBitVec_shiftLeft, sh_m6 hk]
  apply BitVec.eq_of_toNat_eq
  rw [BitVec.shiftLeft_eq', BitVec.toNat_shiftLeft, mt_bv, mt_bv, BitVec.toNat_ofNat, BitVec.toNat_ofNat, BitVec.toNat_ofNat, Nat.mod_eq_of_lt (a := k) (by omega), Nat.shiftLeft_eq]
  simp
theorem upd_s {f : Nat → Int32} {k : Nat} {x : Int32} : upd f k x k = x := by simp [upd]
theorem upd_n {f : Nat → Int32} {k j : Nat} {x : Int32} (h : j ≠ k) : upd f k x j = f j := by simp [upd, h]
theorem zi_U {z : cZ} {k : Nat} {x : Int32} : zi (zU z k x) = upd (zi z) k x := rfl
theorem za_U {z : cZ} {k : Nat} {x : Int32} : za (zU z k x) = za z := rfl
theorem zr_U {z : cZ} {k : Nat} {x : Int32} : zr (zU z k x) = zr z := rfl
theorem ze_U {z : cZ} {k : Nat} {x : Int32} : ze (zU z k x) = ze z := rfl
theorem zi_A {z : cZ} {k i : Nat} {x : Int32} : zi (zA z k i x) = zi z := rfl
theorem za_A {z : cZ} {k i : Nat} {x : Int32} : za (zA z k i x) = up2 (za z) k i x := rfl
theorem zr_A {z : cZ} {k i : Nat} {x : Int32} : zr (zA z k i x) = zr z := rfl
theorem ze_A {z : cZ} {k i : Nat} {x : Int32} : ze (zA z k i x) = ze z := rfl
theorem zi_R {z : cZ} {k i : Nat} {x : Option Nat} : zi (zR z k i x) = zi z := rfl
theorem za_R {z : cZ} {k i : Nat} {x : Option Nat} : za (zR z k i x) = za z := rfl
theorem zr_R {z : cZ} {k i : Nat} {x : Option Nat} : zr (zR z k i x) = upr (zr z) k i x := rfl
theorem ze_R {z : cZ} {k i : Nat} {x : Option Nat} : ze (zR z k i x) = ze z := rfl
theorem zi_E {z : cZ} {k i : Nat} {x : Int32} : zi (zE z k i x) = zi z := rfl
theorem za_E {z : cZ} {k i : Nat} {x : Int32} : za (zE z k i x) = za z := rfl
theorem zr_E {z : cZ} {k i : Nat} {x : Int32} : zr (zE z k i x) = zr z := rfl
theorem ze_E {z : cZ} {k i : Nat} {x : Int32} : ze (zE z k i x) = upe (ze z) k i x := rfl
theorem zi_F {z : cZ} {k : Nat} {x : Nat → Int32} : zi (zF z k x) = zi z := rfl
theorem za_F {z : cZ} {k : Nat} {x : Nat → Int32} : za (zF z k x) = fun a => if a = k then x else za z a := rfl
theorem zr_F {z : cZ} {k : Nat} {x : Nat → Int32} : zr (zF z k x) = zr z := rfl
theorem ze_F {z : cZ} {k : Nat} {x : Nat → Int32} : ze (zF z k x) = ze z := rfl
theorem zi_G {z : cZ} {k : Nat} {x : Nat → Option Nat} : zi (zG z k x) = zi z := rfl
theorem za_G {z : cZ} {k : Nat} {x : Nat → Option Nat} : za (zG z k x) = za z := rfl
theorem zr_G {z : cZ} {k : Nat} {x : Nat → Option Nat} : zr (zG z k x) = fun a => if a = k then x else zr z a := rfl
theorem ze_G {z : cZ} {k : Nat} {x : Nat → Option Nat} : ze (zG z k x) = ze z := rfl
theorem zi_N {z : cZ} {k : Nat} : zi (zN z k) = zi z := rfl
theorem za_N {z : cZ} {k : Nat} : za (zN z k) = za z := rfl
theorem zr_N {z : cZ} {k : Nat} : zr (zN z k) = zr z := rfl
theorem ze_N {z : cZ} {k : Nat} : ze (zN z k) = fun a b => if a = k then 0 else ze z a b := rfl
/-- how much room the shape stands for -/
def phi (h : cH) : Nat := 2 * (h.1 0 + h.1 1 + h.1 2 + h.1 3 + h.1 4) + 8 * h.2.1
/-- what was made is paid by what the shape grew -/
def gr (h h' : cH) : Prop := h'.2.2.1 + phi h ≤ h.2.2.1 + phi h' ∧ h'.2.2.2 + phi h ≤ h.2.2.2 + phi h'
theorem gr.refl (h : cH) : gr h h := ⟨Nat.le_refl _, Nat.le_refl _⟩
theorem gr.trans {a b c : cH} (h : gr a b) (k : gr b c) : gr a c := by
  obtain ⟨h1, h2⟩ := h; obtain ⟨k1, k2⟩ := k; exact ⟨by omega, by omega⟩
theorem ixF {n m : Nat} (hb : n < 2147483648) : (nt n < nt 0 ∨ m ≤ (nt n).toNatClampNeg) = (m ≤ n) := by
  rw [nt_lt hb (by omega), nt_cl hb]; exact propext ⟨by omega, by omega⟩
theorem sm_eq {α : Type} {a b : α} : (some a = some b) = (a = b) := propext ⟨fun h => Option.some.inj h, fun h => by rw [h]⟩
theorem bind_s {α β : Type} {a : α} {f : α → Option β} : (some a).bind f = f a := rfl
theorem k8 : nt 8 &&& nt 31 = nt 8 := by decide
theorem k16 : nt 16 &&& nt 31 = nt 16 := by decide
theorem k7 : nt 7 &&& nt 31 = nt 7 := by decide
theorem k4 : nt 4 &&& nt 31 = nt 4 := by decide
theorem s_r8 {d : Nat} (h : d < 2147483648) : nt d >>> nt 8 = nt (d / 256) := nt_shr h (by omega)
theorem s_l7 {d : Nat} : nt d <<< nt 7 = nt (d * 128) := nt_shl (by omega)
theorem s_l8 {d : Nat} : nt d <<< nt 8 = nt (d * 256) := nt_shl (by omega)
theorem s_l16 {d : Nat} : nt d <<< nt 16 = nt (d * 65536) := nt_shl (by omega)
theorem a255 {d : Nat} : nt d &&& nt 255 = nt (d % 256) := by
  rw [nt_and, show d &&& 255 = d % 256 from Nat.and_two_pow_sub_one_eq_mod d 8]
theorem a127 {d : Nat} : nt d &&& nt 127 = nt (d % 128) := by
  rw [nt_and, show d &&& 127 = d % 128 from Nat.and_two_pow_sub_one_eq_mod d 7]
