/-! System.arraycopy of ints, clone of an array of ints, over the map; nothing was written before (no places) -/
section ZCP
variable {p : Program} {l : Launch} {e : Env} {R : Room} {s : State} {m : MethodId} {args : Array Value} {below : List Frame} {meth : Method} {c : Code} {H : Heap} {cells slots : Nat} {Q : State → Prop}
variable {cc : ByteArray} {pc : Nat} {ls : Array Slot} {rest : List Value} {D : va_G} {cl : List vw_C} {B a : Nat} {tys : List (ClassId × FieldType)} {M : zw_M} {H0 : Heap}
theorem zw_copyi (hexec : p.tables.exec = Jvm.exec) (hb : c.code = cc) (hml : c.maxLocals = ls.size) {own : String} {index : Nat} (hown : s.vm.findClass own = some m.cls) (hlink : (Cond.methodLink own index arraycopyName).before args s = true) (hnat : (Cond.native arraycopyName).before args s = true) (hstat : (Cond.static arraycopyName).before args s = true) (hini : (Cond.initialized "java/lang/System").before args s = true)
    (hK : va_K D cl tys s) (hP : zw_H D cl B M H) (hS : va_S (zw_A B) H0 H []) (t0 : Nat) {a0 : Nat} {c0 : ClassId} {n0 n1 N : Nat} {f g : Nat → Int32} (ha0 : M a0 = some (.inl (c0, n0, .inl f))) (ha1 : M a = some (.inl (c0, n1, .inl g))) (hne : a0 ≠ a) (ht0 : tys[t0]? = some (c0, .int)) (hN : N < 2 ^ 31) (h4 : N ≤ n0) (h5 : N ≤ n1)
    (hframes : 1 ≤ R.frames) (hlocals : (rest.map fun v => v.category).sum + (nativeFrameWords "java/lang/System" "arraycopy" 5 + 11) ≤ R.locals) (hdg : decode cc pc = .ok (.invokestatic index, 3))
    (kk : ∀ (H1 : Heap) (locs1 : List Loc), zw_H D cl B (zw_u M a (.inl (c0, n1, .inl (va_cpy f g 0 0 N)))) H1 → H.size ≤ H1.size → va_S (zw_A B) H0 H1 locs1 → W p l e R s m args below meth c H1 locs1 cells slots Q (F0 m (pc + 3) ls rest)) : W p l e R s m args below meth c H [] cells slots Q (F0 m pc ls (.int (nI N) :: .int (nI 0) :: .ref a :: .int (nI 0) :: .ref a0 :: rest)) := by
  have hc : (nI N).toNatClampNeg = N := nI_clamp hN
  have hc0 : (nI 0).toNatClampNeg = 0 := nI_clamp (by decide)
  refine va_copyi (D := D) (cl := cl) (A := fun q => q = a0 ∨ q = a) (ws := [(a0, .inl (c0, n0, .inl f)), (a, .inl (c0, n1, .inl g))]) (H0 := H) hexec hb hml hown hlink hnat hstat hini hK ?_ ?_ ⟨Nat.le_refl _, fun _ _ _ => rfl, fun _ h => by cases h⟩ 0 1 t0 t0 rfl rfl ht0 ht0 rfl (nI_pos (by decide)) (nI_pos (by decide)) (nI_pos hN) (by rw [hc, hc0]; omega) (by rw [hc, hc0]; omega) (fun i _ => rfl) hframes hlocals hdg ?_
  · intro k q hk
    match k, hk with
    | 0, hk => cases hk; exact (hP _ _ ha0).2
    | 1, hk => cases hk; exact (hP _ _ ha1).2
    | k + 2, hk => simp at hk
  · refine ⟨fun i j p q hi hj hpq => ?_, fun k q hk => ?_⟩
    · match i, j, hi, hj with
      | 0, 0, _, _ => rfl
      | 0, 1, hi, hj => cases hi; cases hj; exact absurd hpq hne
      | 1, 0, hi, hj => cases hi; cases hj; exact absurd hpq.symm hne
      | 1, 1, _, _ => rfl
      | i + 2, _, hi, _ => simp at hi
      | _, j + 2, _, hj => simp at hj
    · match k, hk with
      | 0, hk => cases hk; exact Or.inl rfl
      | 1, hk => cases hk; exact Or.inr rfl
      | k + 2, hk => simp at hk
  · intro H1 locs1 hP1 hD1 hS1
    rw [hc, hc0] at hP1
    refine kk H1 locs1 ?_ hS1.1 ⟨Nat.le_trans hS.1 hS1.1, fun q h1 h2 => ?_, fun q hq => ?_⟩
    · intro q e2 h2
      by_cases hq : q = a
      · subst hq
        rw [zw_us] at h2
        cases h2
        exact ⟨(hP _ _ ha1).1, hP1 1 _ rfl⟩
      · rw [zw_un _ _ hq] at h2
        by_cases hq0 : q = a0
        · subst hq0
          rw [ha0] at h2
          cases h2
          exact ⟨(hP _ _ ha0).1, hP1 0 _ rfl⟩
        · exact ⟨(hP q e2 h2).1, (hP q e2 h2).2.kept (hS1.2.1 q (hP.lt h2) (fun h => h.elim hq0 hq))⟩
    · rw [hS1.2.1 q (Nat.lt_of_lt_of_le h1 hS.1) (fun h => h2 (h.elim (fun w => by rw [w]; exact (hP _ _ ha0).1) (fun w => by rw [w]; exact (hP _ _ ha1).1)))]
      exact hS.2.1 q h1 h2
    · exact (hS1.2.2 q hq).elim (fun w => by rw [w]; exact (hP _ _ ha0).1) (fun w => by rw [w]; exact (hP _ _ ha1).1)
theorem zw_clone (hexec : p.tables.exec = Jvm.exec) (hb : c.code = cc) (hml : c.maxLocals = ls.size) {own ad : String} {index : Nat} (hown : s.vm.findClass own = some m.cls)
    (hlink : (Cond.methodLink own index ⟨ad, "clone", "()Ljava/lang/Object;"⟩).before args s = true) (hsame : (Cond.sameMethod ad "java/lang/Object" "clone" "()Ljava/lang/Object;").before args s = true)
    (hnat : (Cond.native ⟨"java/lang/Object", "clone", "()Ljava/lang/Object;"⟩).before args s = true) (hinst : (Cond.instanceMethod ⟨"java/lang/Object", "clone", "()Ljava/lang/Object;"⟩).before args s = true)
    (hsel : (Cond.selects ad ⟨ad, "clone", "()Ljava/lang/Object;"⟩ ⟨"java/lang/Object", "clone", "()Ljava/lang/Object;"⟩).before args s = true) (hcl : va_Nw (.castable ad "java/lang/Cloneable") s)
    (hK : va_K D cl tys s) (hP : zw_H D cl B M H) (hS : va_S (zw_A B) H0 H []) (hBs : B ≤ H.size) (t0 : Nat) {cA : ClassId} {N : Nat} {f : Nat → Int32} (ha : M a = some (.inl (cA, N, .inl f))) (ht : tys[t0]? = some (cA, .int)) (hnm : s.vm.findClass ad = some cA)
    (hframes : 1 ≤ R.frames) (hlocals : (rest.map fun v => v.category).sum + 14 ≤ R.locals) (hcells : cells + 1 ≤ R.cells) (hslots : slots + N ≤ R.slots) (hdg : decode cc pc = .ok (.invokevirtual index, 3))
    (kk : ∀ (q : Nat) (H1 : Heap), H.size ≤ q → zw_H D cl B (zw_u M q (.inl (cA, N, .inl f))) H1 → H.size ≤ H1.size → va_S (zw_A B) H0 H1 [] → W p l e R s m args below meth c H1 [] (cells + 1) (slots + N) Q (F0 m (pc + 3) ls (.ref q :: rest))) : W p l e R s m args below meth c H [] cells slots Q (F0 m pc ls (.ref a :: rest)) := by
  refine va_clone (D := D) (cl := cl) (A := fun q => q = a ∨ H.size ≤ q) (ws := [(a, .inl (cA, N, .inl f))]) (H0 := H) (x := (N, .inl f)) (ty := .int) hexec hb hml hown hlink hsame hnat hinst hsel hcl hK (hP.one ha) ?_ ⟨Nat.le_refl _, fun _ _ _ => rfl, fun _ h => by cases h⟩ (fun q hq => Or.inr hq) 0 t0 rfl ht hnm (fun i v hv => ?_) hframes hlocals hcells hslots hdg ?_
  · refine ⟨fun i j p q hi hj hpq => ?_, fun k q hk => ?_⟩
    · match i, j, hi, hj with
      | 0, 0, _, _ => rfl
      | i + 1, _, hi, _ => simp at hi
      | _, j + 1, _, hj => simp at hj
    · match k, hk with
      | 0, hk => cases hk; exact Or.inl rfl
      | k + 1, hk => simp at hk
  · have hv2 : (arrV cA N (fun j => .int (f j))).slots[i]? = some v := hv
    by_cases hi : i < N
    · rw [arrV_read _ _ hi] at hv2
      cases hv2
      rfl
    · rw [Array.getElem?_eq_none (by rw [arrV_size]; omega)] at hv2
      cases hv2
  · intro q H1 _ hP1 hD1 hS1
    have hq : H.size ≤ q := by
      rcases hD1.2 1 _ rfl with h | h
      · have := hD1.1 0 1 _ _ rfl rfl h.symm
        cases this
      · exact h
    have hkp : ∀ r : Nat, r < H.size → H1[r]? = H[r]? := fun r hr => by
      by_cases hra : r = a
      · subst hra
        have e1 : H1[r]? = some (vp_cell cA (N, .inl f)) := hP1 0 _ rfl
        have e2 : H[r]? = some (vp_cell cA (N, .inl f)) := (hP _ _ ha).2
        rw [e1, e2]
      · exact hS1.2.1 r hr (fun h => h.elim hra (fun w => by omega))
    refine kk q H1 hq ?_ hS1.1 ⟨Nat.le_trans hS.1 hS1.1, fun r h1 h2 => ?_, fun _ h => by cases h⟩
    · intro r e2 h2
      by_cases hr : r = q
      · subst hr
        rw [zw_us] at h2
        cases h2
        exact ⟨Nat.le_trans hBs hq, hP1 1 _ rfl⟩
      · rw [zw_un _ _ hr] at h2
        exact ⟨(hP r e2 h2).1, (hP r e2 h2).2.kept (hkp r (hP.lt h2))⟩
    · rw [hkp r (Nat.lt_of_lt_of_le h1 hS.1)]
      exact hS.2.1 r h1 h2
end ZCP
