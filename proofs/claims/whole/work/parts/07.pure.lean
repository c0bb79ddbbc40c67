/-! PURE ROWS. The family uN is a starting text of the kit's (kit/laws/BITS.to-paste) -/
def uN (x : Int64) : Nat := x.toUInt64.toNat
theorem uN_lt (x : Int64) : uN x < 18446744073709551616 := x.toUInt64.toNat_lt
theorem uN_inj {x y : Int64} (h : uN x = uN y) : x = y := congrArg UInt64.toInt64 (UInt64.toNat_inj.mp h)
theorem uN_add (x y : Int64) : uN (x + y) = (uN x + uN y) % 18446744073709551616 := by
  show (x.toUInt64 + y.toUInt64).toNat = _
  exact UInt64.toNat_add _ _
theorem uN_mul (x y : Int64) : uN (x * y) = (uN x * uN y) % 18446744073709551616 := by
  show (x.toUInt64 * y.toUInt64).toNat = _
  exact UInt64.toNat_mul _ _
theorem uN_shl (x : Int64) : uN (x <<< ((1 : Int32).toInt64 &&& 63)) = (2 * uN x) % 18446744073709551616 := by
  have h : (((1 : Int32).toInt64 &&& 63).toBitVec.smod 64).toNat = 1 := by decide
  show (x.toBitVec <<< (((1 : Int32).toInt64 &&& 63).toBitVec.smod 64).toNat).toNat = _
  rw [h, BitVec.toNat_shiftLeft, Nat.shiftLeft_eq, Nat.mul_comm]
  rfl
theorem uN_shr (x : Int64) (s : UInt64) : uN (x.toUInt64 >>> s).toInt64 = uN x / 2 ^ (s.toNat % 64) := by
  show (x.toUInt64 >>> s).toNat = _
  rw [UInt64.toNat_shiftRight, Nat.shiftRight_eq_div_pow]
  rfl
theorem uN_sk (x : Int64) {k : Nat} (hk : k < 64) : uN (x.toUInt64 >>> ((nI k).toInt64.toUInt64 &&& Int64.toUInt64 63)).toInt64 = uN x / 2 ^ k := by
  have h : ((nI k).toInt64.toUInt64 &&& Int64.toUInt64 63).toNat % 64 = k := by
    rw [nI_l (by omega), UInt64.toNat_and]
    have e : (lN k).toUInt64.toNat = k % 2 ^ 64 := rfl
    have e2 : (Int64.toUInt64 63).toNat = 2 ^ 6 - 1 := by decide
    rw [e, e2, Nat.and_two_pow_sub_one_eq_mod]
    omega
  rw [uN_shr, h]
theorem uN_lN {n : Nat} (h : n < 18446744073709551616) : uN (lN n) = n := by
  show n % 2 ^ 64 = n
  exact Nat.mod_eq_of_lt h
theorem lN_uN (x : Int64) : lN (uN x) = x := uN_inj (uN_lN (uN_lt x))
/-- byte a of a long -/
def zb (x : Int64) (a : Nat) : Nat := uN x / 2 ^ (8 * a) % 256
theorem zb_lt (x : Int64) (a : Nat) : zb x a < 256 := Nat.mod_lt _ (by decide)
theorem zb_cnt (x : Int64) {a : Nat} (ha : a < 8) : ((x.toUInt64 >>> ((nI (8 * a)).toInt64.toUInt64 &&& Int64.toUInt64 63)).toInt64.toInt32 &&& nI 255) = nI (zb x a) := by
  have h := uN_sk x (k := 8 * a) (by omega)
  generalize (x.toUInt64 >>> ((nI (8 * a)).toInt64.toUInt64 &&& Int64.toUInt64 63)).toInt64 = y at h ⊢
  rw [← lN_uN y, lN_i, pk_and _ 8 (by decide), h]
  congr 1
  show (uN x / 2 ^ (8 * a)) % 2 ^ 32 % 2 ^ 8 = _
  unfold zb
  omega
theorem zb_8 {a : Nat} (h : a < 8) : a = 0 ∨ a = 1 ∨ a = 2 ∨ a = 3 ∨ a = 4 ∨ a = 5 ∨ a = 6 ∨ a = 7 := by omega
theorem zb_one {a : Nat} (ha : a < 8) : (1 : Int64) <<< ((nI (8 * a)).toInt64 &&& 63) = lN (256 ^ a) := by
  rcases zb_8 ha with rfl | rfl | rfl | rfl | rfl | rfl | rfl | rfl <;> decide
/-- how many changes of actor a stand in a log -/
def zcnt (a : Nat) (L : List Nat) : Nat := (L.filter (fun c => c % 8 == a)).length
theorem zcnt_nil (a : Nat) : zcnt a [] = 0 := rfl
theorem zcnt_app (a c : Nat) (L : List Nat) : zcnt a (L ++ [c]) = zcnt a L + if c % 8 = a then 1 else 0 := by
  unfold zcnt
  rw [List.filter_append, List.length_append]
  by_cases h : c % 8 = a
  · simp [h]
  · simp [h]
theorem zcnt_le (a : Nat) (L : List Nat) : zcnt a L ≤ L.length := List.length_filter_le _ _
/-- eight numbers as one -/
def zp8 (c : Nat → Nat) : Nat := c 0 + 256 * (c 1 + 256 * (c 2 + 256 * (c 3 + 256 * (c 4 + 256 * (c 5 + 256 * (c 6 + 256 * c 7))))))
theorem zp8_lt {c : Nat → Nat} (h : ∀ b, b < 8 → c b < 256) : zp8 c < 18446744073709551616 := by
  have h0 := h 0 (by decide); have h1 := h 1 (by decide); have h2 := h 2 (by decide); have h3 := h 3 (by decide); have h4 := h 4 (by decide); have h5 := h 5 (by decide); have h6 := h 6 (by decide); have h7 := h 7 (by decide)
  unfold zp8
  omega
theorem zp8_at {c : Nat → Nat} (h : ∀ b, b < 8 → c b < 256) {a : Nat} (ha : a < 8) : zp8 c / 2 ^ (8 * a) % 256 = c a := by
  have h0 := h 0 (by decide); have h1 := h 1 (by decide); have h2 := h 2 (by decide); have h3 := h 3 (by decide); have h4 := h 4 (by decide); have h5 := h 5 (by decide); have h6 := h 6 (by decide); have h7 := h 7 (by decide)
  unfold zp8
  rcases zb_8 ha with rfl | rfl | rfl | rfl | rfl | rfl | rfl | rfl <;> simp <;> omega
theorem zp8_inc (c : Nat → Nat) {a : Nat} (ha : a < 8) : zp8 (fun b => c b + if a = b then 1 else 0) = zp8 c + 256 ^ a := by
  unfold zp8
  rcases zb_8 ha with rfl | rfl | rfl | rfl | rfl | rfl | rfl | rfl <;> simp <;> omega
/-- a log's clock -/
def zck (L : List Nat) : Int64 := lN (zp8 (fun a => zcnt a L))
theorem zck_app (L : List Nat) (c : Nat) : zck (L ++ [c]) = zck L + lN (256 ^ (c % 8)) := by
  unfold zck
  rw [lN_add, ← zp8_inc _ (Nat.mod_lt c (by decide : 0 < 8))]
  congr 2
  funext b
  exact zcnt_app b c L
theorem zck_at {L : List Nat} (h : ∀ b, b < 8 → zcnt b L < 256) {a : Nat} (ha : a < 8) : zb (zck L) a = zcnt a L := by
  unfold zb zck
  rw [uN_lN (zp8_lt h), zp8_at h ha]
