/-! new int[n][k] over the map -/
def zw_rows (M : zw_M) (h N : Nat) (e : va_E) : zw_M := fun q => if h ≤ q ∧ q < h + N then some e else M q
theorem zw_rin (M : zw_M) {h N q : Nat} (e : va_E) (h1 : h ≤ q) (h2 : q < h + N) : zw_rows M h N e q = some e := if_pos ⟨h1, h2⟩
theorem zw_rout (M : zw_M) {h N q : Nat} (e : va_E) (h1 : ¬ (h ≤ q ∧ q < h + N)) : zw_rows M h N e q = M q := if_neg h1
theorem zarrV_ext {cA : ClassId} {N : Nat} {f g : Nat → Value} (h : ∀ j, j < N → f j = g j) : arrV cA N f = arrV cA N g := by
  unfold arrV
  congr 2
  funext j
  exact h j.val j.isLt
section ZMU
variable {p : Program} {l : Launch} {e : Env} {R : Room} {s : State} {m : MethodId} {args : Array Value} {below : List Frame} {meth : Method} {c : Code} {H : Heap} {locs : List Loc} {cells slots : Nat} {Q : State → Prop}
variable {cc : ByteArray} {pc : Nat} {ls : Array Slot} {rest : List Value} {D : va_G} {cl : List vw_C} {B : Nat} {tys : List (ClassId × FieldType)} {M : zw_M} {H0 : Heap}
theorem zw_multi (hexec : p.tables.exec = Jvm.exec) (hb : c.code = cc) {own : String} {index : Nat} (hown : s.vm.findClass own = some m.cls) (hclink : (Cond.classLink own index "[[I").before args s = true)
    (hover : (Cond.arrayOver (.array .int)).before args s = true) (harr : (Cond.arrayClass .int).before args s = true) (hK : va_K D cl tys s) (hP : zw_H D cl B M H) (hS : va_S (zw_A B) H0 H locs) (hBs : B ≤ H.size) (t0 t1 : Nat) {cA cI : ClassId} (ht0 : tys[t0]? = some (cI, .int)) (ht1 : tys[t1]? = some (cA, .array .int)) (hdg : decode cc pc = .ok (.multianewarray index 2, 4)) {N K : Nat}
    (hb1 : N ≤ 100000) (hb2 : K ≤ 100000) (hcells : cells + (1 + N) ≤ R.cells) (hslots : slots + (N + N * K) ≤ R.slots)
    (kk : ∀ (H1 : Heap), zw_H D cl B (zw_u (zw_rows M (H.size + 1) N (.inl (cI, K, .inl (fun _ => nI 0)))) H.size (.inl (cA, N, .inr (.inr (.inr (.inr (fun i => some (H.size + 1 + i)))))))) H1 → H1.size = H.size + 1 + N → va_S (zw_A B) H0 H1 locs →
      W p l e R s m args below meth c H1 locs (cells + 1 + N) (slots + N + N * K) Q (F0 m (pc + 4) ls (.ref H.size :: rest))) : W p l e R s m args below meth c H locs cells slots Q (F0 m pc ls (.int (nI K) :: .int (nI N) :: rest)) := by
  have f0 : s.vm.findClass "[I" = some cI := (hK.2 t0 _ ht0).2
  have f1 : s.vm.findClass "[[I" = some cA := (hK.2 t1 _ ht1).2
  refine zg_multi hexec hb hown hclink hover harr hdg (N := N) (K := K) (nI_clamp (by omega)) (nI_clamp (by omega)) (nI_pos (by omega)) (nI_pos (by omega)) hb1 hb2 hcells hslots (fun H1 cA' cI' e1 e2 hz ho hk hr => ?_)
  cases e1.symm.trans f1
  cases e2.symm.trans f0
  refine kk H1 ?_ hz (zw_S.new hS (by omega) hk)
  intro q e3 h3
  by_cases hq : q = H.size
  · subst hq
    rw [zw_us] at h3
    cases h3
    refine ⟨hBs, ?_⟩
    show H1[H.size]? = some (vp_cell _ _)
    rw [ho, vp_cell_q]
    unfold zg_o
    exact congrArg some (zarrV_ext (fun j hj => if_pos hj))
  · rw [zw_un _ _ hq] at h3
    by_cases hr2 : H.size + 1 ≤ q ∧ q < H.size + 1 + N
    · rw [zw_rin _ _ hr2.1 hr2.2] at h3
      cases h3
      refine ⟨by omega, ?_⟩
      have := hr (q - (H.size + 1)) (by omega)
      rw [show H.size + 1 + (q - (H.size + 1)) = q by omega] at this
      show H1[q]? = some (vp_cell _ _)
      rw [this, vp_cell_i]
      rfl
    · rw [zw_rout _ _ hr2] at h3
      exact ⟨(hP q e3 h3).1, (hP q e3 h3).2.kept (hk q (hP.lt h3))⟩
end ZMU
/-- between two bounds -/
def zcl (lo hi : Nat) (a : Int32) : Nat := if a < nI lo then lo else if nI hi < a then hi else a.toNatClampNeg
theorem zcl_in {lo hi : Nat} (h : lo ≤ hi) (hh : hi < 2 ^ 31) (a : Int32) : lo ≤ zcl lo hi a ∧ zcl lo hi a ≤ hi ∧ (¬ a < nI lo → ¬ nI hi < a → nI (zcl lo hi a) = a) := by
  unfold zcl
  by_cases h1 : a < nI lo
  · rw [if_pos h1]; exact ⟨Nat.le_refl _, h, fun w => absurd h1 w⟩
  · rw [if_neg h1]
    by_cases h2 : nI hi < a
    · rw [if_pos h2]; exact ⟨h, Nat.le_refl _, fun _ w => absurd h2 w⟩
    · rw [if_neg h2]
      rw [Int32.lt_iff_toInt_lt, nI_toInt (by omega)] at h1
      rw [Int32.lt_iff_toInt_lt, nI_toInt hh] at h2
      have e : a.toNatClampNeg = a.toInt.toNat := rfl
      refine ⟨by omega, by omega, fun _ _ => ?_⟩
      have h3 : a.toNatClampNeg < 2 ^ 31 := by omega
      apply Int32.toInt_inj.mp
      rw [nI_toInt h3]
      omega
theorem zcl_max {lo hi : Nat} (h : lo ≤ hi) (hh : hi < 2 ^ 31) (a : Int32) : (if nI lo < (if a < nI hi then a else nI hi) then (if a < nI hi then a else nI hi) else nI lo) = nI (zcl lo hi a) := by
  have hl : lo < 2 ^ 31 := by omega
  obtain ⟨c1, c2, c3⟩ := zcl_in h hh a
  have el := nI_toInt hl
  have eh := nI_toInt hh
  by_cases h1 : a < nI lo
  · have e : zcl lo hi a = lo := if_pos h1
    rw [e]
    rw [Int32.lt_iff_toInt_lt] at h1
    by_cases h2 : a < nI hi
    · rw [if_pos h2, if_neg (by rw [Int32.lt_iff_toInt_lt]; omega)]
    · rw [if_neg h2]
      rw [Int32.lt_iff_toInt_lt] at h2
      omega
  · by_cases h2 : nI hi < a
    · have e : zcl lo hi a = hi := by unfold zcl; rw [if_neg h1, if_pos h2]
      rw [e]
      rw [Int32.lt_iff_toInt_lt] at h2
      have ev : (if a < nI hi then a else nI hi) = nI hi := if_neg (by rw [Int32.lt_iff_toInt_lt]; omega)
      rw [ev]
      by_cases h3 : nI lo < nI hi
      · rw [if_pos h3]
      · rw [if_neg h3]
        rw [Int32.lt_iff_toInt_lt] at h3
        congr 1; omega
    · rw [c3 h1 h2]
      have g1 := h1; have g2 := h2
      rw [Int32.lt_iff_toInt_lt] at g1 g2
      have ev : (if a < nI hi then a else nI hi) = a := by
        by_cases h3 : a < nI hi
        · rw [if_pos h3]
        · rw [if_neg h3]
          rw [Int32.lt_iff_toInt_lt] at h3
          apply Int32.toInt_inj.mp; omega
      rw [ev]
      by_cases h4 : nI lo < a
      · rw [if_pos h4]
      · rw [if_neg h4]
        rw [Int32.lt_iff_toInt_lt] at h4
        apply Int32.toInt_inj.mp; omega
