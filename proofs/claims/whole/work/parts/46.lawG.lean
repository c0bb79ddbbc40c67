/-! THE START: what the tables and the premises give -/
theorem zK_start {s : State} {A : Array Value} (hz : ∀ w ∈ zT, w.before A s = true) (hO : (Cond.arrayOver (.array .int)).before A s = true) (hQ : (Cond.arrayOver (.object "ChangeSync$Message")).before A s = true) (a : Nat) : ∃ G : zG, G.2.2 = a ∧ va_K G.1 zCl (zt G) s := by
  obtain ⟨c0, i0, hK0⟩ := u_known (C := RM) (T := TM) (N := 6) (n := 6) hz iM (hz _ zm_276)
  obtain ⟨c1, i1, hK1⟩ := u_known (C := RC) (T := TC) (N := 14) (n := 14) hz iC (hz _ zm_14)
  obtain ⟨c2, i2, hK2⟩ := u_known (C := RR) (T := TR) (N := 22) (n := 22) hz iR (hz _ zm_382)
  obtain ⟨dI, kI, pI, a1, a2, a3⟩ := Cond.arrayClass_spec (hz _ zm_76)
  obtain ⟨dJ, kJ, pJ, b1, b2, b3⟩ := Cond.arrayClass_spec (hz _ zm_75)
  obtain ⟨dZ, kZ, pZ, e1, e2, e3⟩ := Cond.arrayClass_spec (hz _ zm_74)
  obtain ⟨pQ, dQ, kQ, f1, -, f2, f3, f4⟩ := Cond.arrayOver_spec hQ
  obtain ⟨pG, dG, kG, g1, -, g2, g3, g4⟩ := arrayOverA_spec hO
  refine ⟨((fun k => match k with | 0 => c0 | 1 => c1 | _ => c2, fun k => match k with | 0 => i0 | 1 => i1 | _ => i2), (fun k => match k with | 0 => dI | 1 => dJ | 2 => dZ | 3 => dQ | _ => dG), a), rfl, ?_, ?_⟩
  · intro k q hq
    match k, hq with
    | 0, hq => cases hq; exact hK0
    | 1, hq => cases hq; exact hK1
    | 2, hq => cases hq; exact hK2
    | k + 3, hq => simp [zCl] at hq
  · intro k q hq
    match k, hq with
    | 0, hq => cases hq; exact ⟨fun n z => ⟨fun k h => (by cases h), kI, a2, pI, a3⟩, a1⟩
    | 1, hq => cases hq; exact ⟨fun n z => ⟨fun k h => (by cases h), kJ, b2, pJ, b3⟩, b1⟩
    | 2, hq => cases hq; exact ⟨fun n z => ⟨fun k h => (by cases h), kZ, e2, pZ, e3⟩, e1⟩
    | 3, hq => cases hq; exact ⟨fun n z => ⟨fun k h => (by cases h), kQ, f2, pQ, f3⟩, kQ, pQ, f2, f3, f1, f4⟩
    | 4, hq => cases hq; exact ⟨fun n z => ⟨fun k h => (by cases h), kG, g2, pG, g3⟩, g4⟩
    | k + 5, hq => simp [zt] at hq
theorem zStr_in : ∀ k ∈ zStr, Cond.stringRef "ChangeSync" k.1 k.2 ∈ lw_tbl := by decide +kernel
theorem zclass {A : Array Value} {s : State} {C : String} {n : Nat} (h : (Cond.instantiable C n).before A s = true) : ∃ c, s.vm.findClass C = some c := by
  obtain ⟨c, k, hfc, -⟩ := Cond.instantiable_spec h
  exact ⟨c, hfc⟩
theorem zeq_int {A : Array Value} {s : State} {t : Term} {v : Int32} (h : (Cond.eq t (.int v)).before A s = true) : t.eval A s none [] s = some (.int v) := by
  simp only [Cond.before, Cond.holds, Cond.value] at h
  cases ht : t.eval A s none [] s with
  | none => simp [ht] at h
  | some w =>
    have e : (Term.int v).eval A s none [] s = some (.int v) := rfl
    rw [ht, e] at h
    cases w with
    | int x => simp at h; rw [h]
    | _ => simp at h
theorem zE_start {p : Program} {s : State} {m : MethodId} {meth : Method} {c : Code} {b L : Nat} {xs : Nat → Int32} (C0 : lw_At p s m meth c b L xs) : ∃ G : zG, zEN G s.heap.size s := by
  obtain ⟨hx, hb, hr, hml, hown, hts, hX, hbl, hlocks, hgv⟩ := C0
  have hs := flat_of_before _ hgv
  have hz : ∀ w ∈ zT, w.before #[Value.ref b] s = true := fun w h => hts w (List.mem_filter.mp h).1
  have hA : ∀ a : Nat, a < s.heap.size → ¬ zw_A s.heap.size a := fun a h => Nat.not_le.mpr h
  have hO : (Cond.arrayOver (.array .int)).before #[Value.ref b] s = true := hts _ (by decide +kernel)
  have hQ : (Cond.arrayOver (.object "ChangeSync$Message")).before #[Value.ref b] s = true := hts _ (by decide +kernel)
  have hl0 : (Cond.eq (.length (.static "ChangeSync" "NO_CHANGES" "[I")) (.int 0)).before #[Value.ref b] s = true := hs _ (by decide +kernel)
  have har : (Cond.arrayOf (.static "ChangeSync" "NO_CHANGES" "[I") .int).before #[Value.ref b] s = true := hs _ (by decide +kernel)
  have hlen : (Term.length (.static "ChangeSync" "NO_CHANGES" "[I")).eval #[Value.ref b] s none [] s = some (.int (Int32.ofNat 0)) := zeq_int hl0
  obtain ⟨a, ha, hT⟩ := va_Tof (A := zw_A s.heap.size) (f := fun _ => .int 0) (N := 0) (by decide) har hlen (fun j hj => absurd hj (Nat.not_lt_zero j)) hA
  have hZ := va_Zof (A := zw_A s.heap.size) (hts (.laysStatic "ChangeSync" "NO_CHANGES" "[I") (by decide +kernel)) (hts (.initialized "ChangeSync") (by decide +kernel)) ha hA
  obtain ⟨G, hG, hK⟩ := zK_start hz hO hQ a
  refine ⟨G, ⟨hK, Nat.le_refl _, ?_, ?_, fun w hw => ?_, (show (Cond.arrayOver (.array .int)).before #[] s = true from hO), va_AO.of hQ, ?_, ?_, ?_⟩, ?_, ?_, ?_⟩
  · rw [hG]; exact hZ
  · rw [hG]; exact hT
  · have hw2 := (List.mem_filter.mp hw).2
    rw [Bool.and_eq_true] at hw2
    exact va_any hw2.2 (hts w (List.mem_filter.mp hw).1)
  · exact vx_Zqof (hts (.laysStatic "java/lang/Throwable" "UNASSIGNED_STACK" "[Ljava/lang/StackTraceElement;") (by decide +kernel)) (hts (.initialized "java/lang/Throwable") (by decide +kernel)) (hs (.isRef (.static "java/lang/Throwable" "UNASSIGNED_STACK" "[Ljava/lang/StackTraceElement;")) (by decide +kernel)) hA
  · exact vx_Zqof (hts (.laysStatic "java/lang/Throwable" "SUPPRESSED_SENTINEL" "Ljava/util/List;") (by decide +kernel)) (hts (.initialized "java/lang/Throwable") (by decide +kernel)) (hs (.isRef (.static "java/lang/Throwable" "SUPPRESSED_SENTINEL" "Ljava/util/List;")) (by decide +kernel)) hA
  · intro k hk
    have hw : (Cond.stringRef "ChangeSync" k.1 k.2).before #[Value.ref b] s = true := hts _ (zStr_in k hk)
    obtain ⟨cC, hcC⟩ := zclass (hts (.instantiable "ChangeSync" 14) (by decide +kernel))
    obtain ⟨-, -, -, q, -, -, -, -, -, hev⟩ := Cond.stringRef_spec hcC hw
    exact ⟨q, vk_R.of hw hev⟩
  · exact va_Nc.of (hs (.not (.castable "java/lang/IllegalArgumentException" "java/lang/IndexOutOfBoundsException")) (by decide +kernel))
  · exact va_Nc.of (hs (.not (.castable "java/lang/IllegalStateException" "java/lang/IndexOutOfBoundsException")) (by decide +kernel))
  · exact va_Nc.of (hs (.not (.castable "java/lang/IllegalStateException" "java/lang/IllegalArgumentException")) (by decide +kernel))
