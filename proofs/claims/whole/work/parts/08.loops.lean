/-! LOOPS: a counter that goes up to n; what is fixed is fixed -/
theorem zl_up {Wg : Array Slot → Prop} (I : Nat → Array Slot → Prop) (n : Nat) (hs : ∀ i : Nat, i ≤ n → ∀ ls : Array Slot, I i ls → (i < n → ∀ ls' : Array Slot, I (i + 1) ls' → Wg ls') → Wg ls) {i : Nat} {ls : Array Slot} (hi : i ≤ n) (h : I i ls) : Wg ls := by
  obtain ⟨k, hk⟩ : ∃ k, i + k = n := ⟨n - i, by omega⟩
  induction k generalizing i ls with
  | zero => exact hs i hi ls h (fun q => absurd q (by omega))
  | succ k ih => exact hs i hi ls h (fun q ls' h' => ih (by omega) h' (by omega))
/-- the same where the heap moves -/
theorem zl_upH {Wg : Array Slot → Heap → List Loc → Prop} (I : Nat → Array Slot → Heap → List Loc → Prop) (n : Nat) (hs : ∀ i : Nat, i ≤ n → ∀ (ls : Array Slot) (H : Heap) (locs : List Loc), I i ls H locs → (i < n → ∀ (ls' : Array Slot) (H' : Heap) (locs' : List Loc), I (i + 1) ls' H' locs' → Wg ls' H' locs') → Wg ls H locs) {i : Nat} {ls : Array Slot} {H : Heap} {locs : List Loc} (hi : i ≤ n) (h : I i ls H locs) : Wg ls H locs := by
  obtain ⟨k, hk⟩ : ∃ k, i + k = n := ⟨n - i, by omega⟩
  induction k generalizing i ls H locs with
  | zero => exact hs i hi ls H locs h (fun q => absurd q (by omega))
  | succ k ih => exact hs i hi ls H locs h (fun q ls' H' locs' h' => ih (by omega) h' (by omega))
/-- the same where cells and slots are made too -/
theorem zl_upC {Wg : Array Slot → Heap → List Loc → Nat → Nat → Prop} (I : Nat → Array Slot → Heap → List Loc → Nat → Nat → Prop) (n : Nat) (hs : ∀ i : Nat, i ≤ n → ∀ (ls : Array Slot) (H : Heap) (locs : List Loc) (ce sl : Nat), I i ls H locs ce sl → (i < n → ∀ (ls' : Array Slot) (H' : Heap) (locs' : List Loc) (ce' sl' : Nat), I (i + 1) ls' H' locs' ce' sl' → Wg ls' H' locs' ce' sl') → Wg ls H locs ce sl) {i : Nat} {ls : Array Slot} {H : Heap} {locs : List Loc} {ce sl : Nat} (hi : i ≤ n) (h : I i ls H locs ce sl) : Wg ls H locs ce sl := by
  obtain ⟨k, hk⟩ : ∃ k, i + k = n := ⟨n - i, by omega⟩
  induction k generalizing i ls H locs ce sl with
  | zero => exact hs i hi ls H locs ce sl h (fun q => absurd q (by omega))
  | succ k ih => exact hs i hi ls H locs ce sl h (fun q ls' H' locs' ce' sl' h' => ih (by omega) h' (by omega))
def zsum (f : Nat → Nat) : Nat → Nat
  | 0 => 0
  | n + 1 => zsum f n + f n
theorem zsum_congr {f g : Nat → Nat} : ∀ {n : Nat}, (∀ i, i < n → f i = g i) → zsum f n = zsum g n
  | 0, _ => rfl
  | n + 1, h => by
    show zsum f n + f n = zsum g n + g n
    rw [zsum_congr (fun i hi => h i (by omega)), h n (by omega)]
theorem zsum_le {f : Nat → Nat} {b : Nat} : ∀ {n : Nat}, (∀ i, i < n → f i ≤ b) → zsum f n ≤ n * b
  | 0, _ => Nat.zero_le _
  | n + 1, h => by
    have h1 := zsum_le (n := n) (fun i hi => h i (by omega))
    have h2 := h n (by omega)
    show zsum f n + f n ≤ (n + 1) * b
    rw [Nat.succ_mul]
    omega
