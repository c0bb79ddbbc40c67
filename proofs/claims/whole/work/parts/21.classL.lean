/-! THE CLASS: the roads that throw -/
def zW4 : List Cond := [.laysStatic "java/lang/Throwable" "UNASSIGNED_STACK" "[Ljava/lang/StackTraceElement;", .laysStatic "java/lang/Throwable" "SUPPRESSED_SENTINEL" "Ljava/util/List;", .isRef (.static "java/lang/Throwable" "UNASSIGNED_STACK" "[Ljava/lang/StackTraceElement;"), .isRef (.static "java/lang/Throwable" "SUPPRESSED_SENTINEL" "Ljava/util/List;")]
theorem zx_at {G : zG} {B : Nat} {args : Array Value} {s : State} (hz : ∀ w ∈ zT, w.before args s = true) (hE : zE G B s) {L : List Cond} (hL : ∀ a ∈ L, a ∈ zT ∨ a ∈ zF ∨ a ∈ zW4) : ∀ a ∈ L, a.before args s = true := by
  intro a ha
  obtain ⟨h1, h2, h3, h4, h5, h6, h7, h8, h9, h10⟩ := hE
  rcases hL a ha with h | h | h
  · exact hz a h
  · have hw2 := (List.mem_filter.mp h).2
    rw [Bool.and_eq_true] at hw2
    exact va_tabs hw2.2 rfl (h5 a h)
  · unfold zW4 at h
    simp only [List.mem_cons, List.not_mem_nil, or_false] at h
    rcases h with rfl | rfl | rfl | rfl
    · exact h8.2.word
    · exact h9.2.word
    · exact vx_isRefq h8.1
    · exact vx_isRefq h9.1
theorem zx_wIOOBE : ∀ a ∈ Bundle.ownAtoms RC 62 "java/lang/IndexOutOfBoundsException" ["java/lang/RuntimeException", "java/lang/Exception"], a ∈ zT ∨ a ∈ zF ∨ a ∈ zW4 := by decide +kernel
theorem zx_wIAE : ∀ a ∈ Bundle.ownAtoms RC 69 "java/lang/IllegalArgumentException" ["java/lang/RuntimeException", "java/lang/Exception"], a ∈ zT ∨ a ∈ zF ∨ a ∈ zW4 := by decide +kernel
theorem zx_wISE : ∀ a ∈ Bundle.ownAtoms RC 78 "java/lang/IllegalStateException" ["java/lang/RuntimeException", "java/lang/Exception"], a ∈ zT ∨ a ∈ zF ∨ a ∈ zW4 := by decide +kernel
set_option maxHeartbeats 4000000 in
set_option maxRecDepth 100000 in
theorem tC_make1 (l : Launch) (hflag : l.flags = flags0) (G : zG) (B : Nat) (M : zw_M) (x z L n mb : Nat) (st : zSt) (qs : List Nat) (g : Nat → Int32) (hn : n ≤ 8) (hR : zCR G M x z L n mb st qs g) (a : Int32) (ha : a < 0 ∨ nI n ≤ a) (wg : Int32) : zx_Met l yC_make (Cond.code yC_make bC_make 5 (some .int) :: zT) { frames := 6, cells := 1, slots := 6, locals := 82 } (zp G B M [.ref x, .int a, .int wg]) "java/lang/IndexOutOfBoundsException" 1 6 := by
  refine zx_ofW (cc := bC_make) (maxL := 5) (ret := (some .int)) (by decide) rfl ?_
  intro p e s m args below meth c s₁ B0 hml hv
  obtain ⟨rfl, hE, hH⟩ := hv
  have hx := B0.exec
  have hb := B0.bytes
  have hr := B0.returns
  have hlocks := B0.notSynchronized
  have hz : ∀ w ∈ zT, w.before _ s = true := fun w h => atoms_spec (ws := Cond.code yC_make bC_make 5 (some .int) :: zT) B0.pre w (List.mem_cons_of_mem _ h)
  have hown : s.vm.findClass RC = some m.cls := findClass_of_methodNamed B0.named
  have hK := hE.1
  have hl := lv_entry ([.ref x, .int a, .int wg]) (n := 5) (Nat.le_of_ble_eq_true rfl)
  rw [lg_entry_eq]
  generalize (lg_sl ([.ref x, .int a, .int wg]) ++ List.replicate (5 - (lg_sl ([.ref x, .int a, .int wg])).length) Slot.unset).toArray = ls at hl ⊢
  have hl : lv_has ls 5 [(0, .ref x), (1, .int a), (2, .int wg)] := hl
  have hS : va_S (zw_A B) s.heap s.heap [] := va_S.rf
  have hemp := zx_empty B0 (atoms_spec (ws := Cond.code yC_make bC_make 5 (some .int) :: zT) B0.pre _ List.mem_cons_self)
  have hx0 := hR.obj
  refine lv_aload_n hx hb dC_make_0 rfl (lv_at hl 0 rfl) ?_
  refine lv_iload_n hx hb dC_make_1 rfl (lv_at hl 1 rfl) ?_
  refine zr_V (As := [.int a]) (rest := []) (q := (RC, TC, 14)) ⟨hx, hb, hml, hown, hz⟩ (kC_isReplica_out l G B M x n mb z st.fl.length st.se st.lo st.go st.pa hn hx0 a ha) (zt_V zm_93 zm_95 zs_2 zm_1 zm_96) rfl rfl rfl (show _ ∧ _ ∧ _ ∧ _ = some 1 from by decide +kernel) ⟨Nat.le_of_ble_eq_true rfl, Nat.le_of_ble_eq_true rfl⟩ zE_blind (zE_at hE hS) hH hK hx0 rfl rfl hl.1 rfl (Nat.le_of_ble_eq_true rfl) dC_make_2 ⟨Nat.zero_le _, Nat.zero_le _⟩ ?_
  refine zc_ne0 (tgt := 18) hx hb dC_make_5 (by decide) (by omega) (fun c => ?_) (fun c => ?_)
  · exact absurd rfl c
  · obtain ⟨q0, hq0⟩ := hE.2.2.2.2.2.2.2.2.2 (60, "no such replica") (by decide)
    exact zx_throwS (E := "java/lang/IndexOutOfBoundsException") (names := ["java/lang/RuntimeException", "java/lang/Exception"]) (ic := 62) hx (Launch.traces_off hflag (Stand.of_body B0).admits) hb hemp hlocks hown rfl (by decide) (zx_at hz hE zx_wIOOBE) (hz _ zm_150) (hz _ zm_7) hq0 (hl.1.trans hml.symm) (Nat.le_refl _) dC_make_8 dC_make_11 dC_make_12 dC_make_14 dC_make_17 (Nat.le_of_ble_eq_true rfl) (Nat.le_of_ble_eq_true rfl) (Nat.le_of_ble_eq_true rfl) (Nat.le_of_ble_eq_true rfl) (Nat.le_refl _) (Nat.le_refl _)

set_option maxHeartbeats 4000000 in
set_option maxRecDepth 100000 in
theorem tC_make2 (l : Launch) (hflag : l.flags = flags0) (G : zG) (B : Nat) (M : zw_M) (x z L n mb : Nat) (st : zSt) (qs : List Nat) (g : Nat → Int32) (hn : n ≤ 8) (hR : zCR G M x z L n mb st qs g) (j : Nat) (hj : j < n) (wg : Int32) (hw : wg < nI 1 ∨ ¬ wg ≤ nI 400) : zx_Met l yC_make (Cond.code yC_make bC_make 5 (some .int) :: zT) { frames := 6, cells := 1, slots := 6, locals := 82 } (zp G B M [.ref x, .int (nI j), .int wg]) "java/lang/IllegalArgumentException" 1 6 := by
  refine zx_ofW (cc := bC_make) (maxL := 5) (ret := (some .int)) (by decide) rfl ?_
  intro p e s m args below meth c s₁ B0 hml hv
  obtain ⟨rfl, hE, hH⟩ := hv
  have hx := B0.exec
  have hb := B0.bytes
  have hr := B0.returns
  have hlocks := B0.notSynchronized
  have hz : ∀ w ∈ zT, w.before _ s = true := fun w h => atoms_spec (ws := Cond.code yC_make bC_make 5 (some .int) :: zT) B0.pre w (List.mem_cons_of_mem _ h)
  have hown : s.vm.findClass RC = some m.cls := findClass_of_methodNamed B0.named
  have hK := hE.1
  have hl := lv_entry ([.ref x, .int (nI j), .int wg]) (n := 5) (Nat.le_of_ble_eq_true rfl)
  rw [lg_entry_eq]
  generalize (lg_sl ([.ref x, .int (nI j), .int wg]) ++ List.replicate (5 - (lg_sl ([.ref x, .int (nI j), .int wg])).length) Slot.unset).toArray = ls at hl ⊢
  have hl : lv_has ls 5 [(0, .ref x), (1, .int (nI j)), (2, .int wg)] := hl
  have hS : va_S (zw_A B) s.heap s.heap [] := va_S.rf
  have hemp := zx_empty B0 (atoms_spec (ws := Cond.code yC_make bC_make 5 (some .int) :: zT) B0.pre _ List.mem_cons_self)
  have hx0 := hR.obj
  refine lv_aload_n hx hb dC_make_0 rfl (lv_at hl 0 rfl) ?_
  refine lv_iload_n hx hb dC_make_1 rfl (lv_at hl 1 rfl) ?_
  refine zr_V (As := [.int (nI j)]) (rest := []) (q := (RC, TC, 14)) ⟨hx, hb, hml, hown, hz⟩ (kC_isReplica_in l G B M x n mb z st.fl.length st.se st.lo st.go st.pa hn hx0 j hj) (zt_V zm_93 zm_95 zs_2 zm_1 zm_96) rfl rfl rfl (show _ ∧ _ ∧ _ ∧ _ = some 1 from by decide +kernel) ⟨Nat.le_of_ble_eq_true rfl, Nat.le_of_ble_eq_true rfl⟩ zE_blind (zE_at hE hS) hH hK hx0 rfl rfl hl.1 rfl (Nat.le_of_ble_eq_true rfl) dC_make_2 ⟨Nat.zero_le _, Nat.zero_le _⟩ ?_
  refine zc_ne0 (tgt := 18) hx hb dC_make_5 (by decide) (by omega) (fun c => ?_) (fun c => ?_)
  · refine lv_iload_n hx hb dC_make_18 rfl (lv_at hl 2 rfl) ?_
    refine lv_iconst (v := nI 1) hx hb dC_make_19 (by decide) ?_
    refine lv_icmp_lt (tgt := 30) hx hb dC_make_20 (by decide) (fun c2 => ?_) (fun c2 => ?_)
    · obtain ⟨q0, hq0⟩ := hE.2.2.2.2.2.2.2.2.2 (67, "a weight is 1 .. 400") (by decide)
      exact zx_throwS (E := "java/lang/IllegalArgumentException") (names := ["java/lang/RuntimeException", "java/lang/Exception"]) (ic := 69) hx (Launch.traces_off hflag (Stand.of_body B0).admits) hb hemp hlocks hown rfl (by decide) (zx_at hz hE zx_wIAE) (hz _ zm_218) (hz _ zm_8) hq0 (hl.1.trans hml.symm) (Nat.le_refl _) dC_make_30 dC_make_33 dC_make_34 dC_make_36 dC_make_39 (Nat.le_of_ble_eq_true rfl) (Nat.le_of_ble_eq_true rfl) (Nat.le_of_ble_eq_true rfl) (Nat.le_of_ble_eq_true rfl) (Nat.le_refl _) (Nat.le_refl _)
    · refine lv_iload_n hx hb dC_make_23 rfl (lv_at hl 2 rfl) ?_
      refine lv_sipush (v := nI 400) hx hb dC_make_24 (by decide) ?_
      refine lv_icmp_le (tgt := 40) hx hb dC_make_27 (by decide) (fun c3 => ?_) (fun c3 => ?_)
      · exact absurd c3 (hw.resolve_left c2)
      · obtain ⟨q0, hq0⟩ := hE.2.2.2.2.2.2.2.2.2 (67, "a weight is 1 .. 400") (by decide)
        exact zx_throwS (E := "java/lang/IllegalArgumentException") (names := ["java/lang/RuntimeException", "java/lang/Exception"]) (ic := 69) hx (Launch.traces_off hflag (Stand.of_body B0).admits) hb hemp hlocks hown rfl (by decide) (zx_at hz hE zx_wIAE) (hz _ zm_218) (hz _ zm_8) hq0 (hl.1.trans hml.symm) (Nat.le_refl _) dC_make_30 dC_make_33 dC_make_34 dC_make_36 dC_make_39 (Nat.le_of_ble_eq_true rfl) (Nat.le_of_ble_eq_true rfl) (Nat.le_of_ble_eq_true rfl) (Nat.le_of_ble_eq_true rfl) (Nat.le_refl _) (Nat.le_refl _)
  · exact absurd c (by decide)

set_option maxHeartbeats 4000000 in
set_option maxRecDepth 100000 in
theorem tC_make3 (l : Launch) (hflag : l.flags = flags0) (G : zG) (B : Nat) (M : zw_M) (x z L n mb : Nat) (st : zSt) (qs : List Nat) (g : Nat → Int32) (hn : n ≤ 8) (hR : zCR G M x z L n mb st qs g) (hok : zOK n st) (j wg : Nat) (hj : j < n) (hw1 : 1 ≤ wg) (hw4 : wg ≤ 400) (hd : st.dn j = true ∨ (st.wt j).length = 60) : zx_Met l yC_make (Cond.code yC_make bC_make 5 (some .int) :: zT) { frames := 6, cells := 1, slots := 6, locals := 82 } (zp G B M [.ref x, .int (nI j), .int (nI wg)]) "java/lang/IllegalStateException" 1 6 := by
  refine zx_ofW (cc := bC_make) (maxL := 5) (ret := (some .int)) (by decide) rfl ?_
  intro p e s m args below meth c s₁ B0 hml hv
  obtain ⟨rfl, hE, hH⟩ := hv
  have hx := B0.exec
  have hb := B0.bytes
  have hr := B0.returns
  have hlocks := B0.notSynchronized
  have hz : ∀ w ∈ zT, w.before _ s = true := fun w h => atoms_spec (ws := Cond.code yC_make bC_make 5 (some .int) :: zT) B0.pre w (List.mem_cons_of_mem _ h)
  have hown : s.vm.findClass RC = some m.cls := findClass_of_methodNamed B0.named
  have hK := hE.1
  have hl := lv_entry ([.ref x, .int (nI j), .int (nI wg)]) (n := 5) (Nat.le_of_ble_eq_true rfl)
  rw [lg_entry_eq]
  generalize (lg_sl ([.ref x, .int (nI j), .int (nI wg)]) ++ List.replicate (5 - (lg_sl ([.ref x, .int (nI j), .int (nI wg)])).length) Slot.unset).toArray = ls at hl ⊢
  have hl : lv_has ls 5 [(0, .ref x), (1, .int (nI j)), (2, .int (nI wg))] := hl
  have hS : va_S (zw_A B) s.heap s.heap [] := va_S.rf
  have hemp := zx_empty B0 (atoms_spec (ws := Cond.code yC_make bC_make 5 (some .int) :: zT) B0.pre _ List.mem_cons_self)
  have hb1 := zbool (st.dn j)
  have hzc : zb (zck (st.lg j)) j = (st.wt j).length := (zck_at (hok.b8 hj) (by omega)).trans (hok.2.2.1 _ hj).1
  have h60 := (hok.2.2.1 _ hj).2
  have hx0 := hR.obj
  have hdn := hR.dn
  have hck := hR.ck
  refine lv_aload_n hx hb dC_make_0 rfl (lv_at hl 0 rfl) ?_
  refine lv_iload_n hx hb dC_make_1 rfl (lv_at hl 1 rfl) ?_
  refine zr_V (As := [.int (nI j)]) (rest := []) (q := (RC, TC, 14)) ⟨hx, hb, hml, hown, hz⟩ (kC_isReplica_in l G B M x n mb z st.fl.length st.se st.lo st.go st.pa hn hx0 j hj) (zt_V zm_93 zm_95 zs_2 zm_1 zm_96) rfl rfl rfl (show _ ∧ _ ∧ _ ∧ _ = some 1 from by decide +kernel) ⟨Nat.le_of_ble_eq_true rfl, Nat.le_of_ble_eq_true rfl⟩ zE_blind (zE_at hE hS) hH hK hx0 rfl rfl hl.1 rfl (Nat.le_of_ble_eq_true rfl) dC_make_2 ⟨Nat.zero_le _, Nat.zero_le _⟩ ?_
  refine zc_ne0 (tgt := 18) hx hb dC_make_5 (by decide) (by omega) (fun b1 => ?_) (fun b1 => ?_)
  · refine lv_iload_n hx hb dC_make_18 rfl (lv_at hl 2 rfl) ?_
    refine lv_iconst (v := nI 1) hx hb dC_make_19 (by decide) ?_
    refine zc_lt (tgt := 30) hx hb dC_make_20 (by decide) (by omega) (by decide) (fun b2 => ?_) (fun b2 => ?_)
    · exact absurd b2 (by omega)
    · refine lv_iload_n hx hb dC_make_23 rfl (lv_at hl 2 rfl) ?_
      refine lv_sipush (v := nI 400) hx hb dC_make_24 (by decide) ?_
      refine zc_le (tgt := 40) hx hb dC_make_27 (by decide) (by omega) (by decide) (fun b3 => ?_) (fun b3 => ?_)
      · refine lv_aload_n hx hb dC_make_40 rfl (lv_at hl 0 rfl) ?_
        refine lv_iload_n hx hb dC_make_41 rfl (lv_at hl 1 rfl) ?_
        refine zr_V (As := [.int (nI j)]) (rest := []) (q := (RC, TC, 14)) ⟨hx, hb, hml, hown, hz⟩ (kC_madeBy l G B M x n mb z st.fl.length st.se st.lo st.go st.pa hn hx0 (fun a9 => zck (st.lg a9)) hck j hj) (zt_V zm_114 zm_116 zs_3 zm_1 zm_117) rfl rfl rfl (show _ ∧ _ ∧ _ ∧ _ = some 1 from by decide +kernel) ⟨Nat.le_of_ble_eq_true rfl, Nat.le_of_ble_eq_true rfl⟩ zE_blind (zE_at hE hS) hH hK hx0 rfl rfl hl.1 rfl (Nat.le_of_ble_eq_true rfl) dC_make_42 ⟨Nat.zero_le _, Nat.zero_le _⟩ ?_
        refine zw_ti (congrArg nI hzc) ?_
        refine lv_istore_n (lv' := [(3, .int (nI ((st.wt j).length))), (0, .ref x), (1, .int (nI j)), (2, .int (nI wg))]) hx hb dC_make_45 rfl hl (by decide) rfl (fun ls hl => ?_)
        refine lv_aload_n hx hb dC_make_46 rfl (lv_at hl 1 rfl) ?_
        refine va_get (D := G.1) (ci := 1) (v := .ref z) (C := RC) (T := TC) (N := 14) hx hb hz iC hown hK (hH.one hx0) 0 rfl rfl 2 (by decide) (hz _ zm_33) (fun _ h9 => h9) rfl dC_make_47 ?_
        refine lv_iload_n hx hb dC_make_50 rfl (lv_at hl 2 rfl) ?_
        refine zw_zald hx hb hK hH 2 hdn rfl (j) rfl (hj) (by omega) dC_make_51 ?_
        refine zc_ne0 (tgt := 61) hx hb dC_make_52 (by decide) (by omega) (fun b4 => ?_) (fun b4 => ?_)
        · obtain ⟨q0, hq0⟩ := hE.2.2.2.2.2.2.2.2.2 (76, "the replica is down, or has made 60 changes") (by decide)
          exact zx_throwS (E := "java/lang/IllegalStateException") (names := ["java/lang/RuntimeException", "java/lang/Exception"]) (ic := 78) hx (Launch.traces_off hflag (Stand.of_body B0).admits) hb hemp hlocks hown rfl (by decide) (zx_at hz hE zx_wISE) (hz _ zm_234) (hz _ zm_9) hq0 (hl.1.trans hml.symm) (Nat.le_refl _) dC_make_61 dC_make_64 dC_make_65 dC_make_67 dC_make_70 (Nat.le_of_ble_eq_true rfl) (Nat.le_of_ble_eq_true rfl) (Nat.le_of_ble_eq_true rfl) (Nat.le_of_ble_eq_true rfl) (Nat.le_refl _) (Nat.le_refl _)
        · refine lv_iload_n hx hb dC_make_55 rfl (lv_at hl 0 rfl) ?_
          refine lv_bipush (v := nI 60) hx hb dC_make_56 (by decide) ?_
          refine zc_lt (tgt := 71) hx hb dC_make_58 (by decide) (by omega) (by decide) (fun b5 => ?_) (fun b5 => ?_)
          · exact absurd b5 (by rcases hd with h | h; exact absurd (by rw [h]; decide) (show ¬ (st.dn j).toNat ≠ 0 by omega); omega)
          · obtain ⟨q0, hq0⟩ := hE.2.2.2.2.2.2.2.2.2 (76, "the replica is down, or has made 60 changes") (by decide)
            exact zx_throwS (E := "java/lang/IllegalStateException") (names := ["java/lang/RuntimeException", "java/lang/Exception"]) (ic := 78) hx (Launch.traces_off hflag (Stand.of_body B0).admits) hb hemp hlocks hown rfl (by decide) (zx_at hz hE zx_wISE) (hz _ zm_234) (hz _ zm_9) hq0 (hl.1.trans hml.symm) (Nat.le_refl _) dC_make_61 dC_make_64 dC_make_65 dC_make_67 dC_make_70 (Nat.le_of_ble_eq_true rfl) (Nat.le_of_ble_eq_true rfl) (Nat.le_of_ble_eq_true rfl) (Nat.le_of_ble_eq_true rfl) (Nat.le_refl _) (Nat.le_refl _)
      · exact absurd b3 (by omega)
  · exact absurd b1 (by decide)

set_option maxHeartbeats 4000000 in
set_option maxRecDepth 100000 in
theorem tC_tick1 (l : Launch) (hflag : l.flags = flags0) (G : zG) (B : Nat) (M : zw_M) (x z L n mb : Nat) (st : zSt) (qs : List Nat) (g : Nat → Int32) (hn : n ≤ 8) (hR : zCR G M x z L n mb st qs g) (a : Int32) (ha : a < 0 ∨ nI n ≤ a) : zx_Met l yC_tick (Cond.code yC_tick bC_tick 3 (some .int) :: zT) { frames := 6, cells := 1, slots := 6, locals := 82 } (zp G B M [.ref x, .int a]) "java/lang/IndexOutOfBoundsException" 1 6 := by
  refine zx_ofW (cc := bC_tick) (maxL := 3) (ret := (some .int)) (by decide) rfl ?_
  intro p e s m args below meth c s₁ B0 hml hv
  obtain ⟨rfl, hE, hH⟩ := hv
  have hx := B0.exec
  have hb := B0.bytes
  have hr := B0.returns
  have hlocks := B0.notSynchronized
  have hz : ∀ w ∈ zT, w.before _ s = true := fun w h => atoms_spec (ws := Cond.code yC_tick bC_tick 3 (some .int) :: zT) B0.pre w (List.mem_cons_of_mem _ h)
  have hown : s.vm.findClass RC = some m.cls := findClass_of_methodNamed B0.named
  have hK := hE.1
  have hl := lv_entry ([.ref x, .int a]) (n := 3) (Nat.le_of_ble_eq_true rfl)
  rw [lg_entry_eq]
  generalize (lg_sl ([.ref x, .int a]) ++ List.replicate (3 - (lg_sl ([.ref x, .int a])).length) Slot.unset).toArray = ls at hl ⊢
  have hl : lv_has ls 3 [(0, .ref x), (1, .int a)] := hl
  have hS : va_S (zw_A B) s.heap s.heap [] := va_S.rf
  have hemp := zx_empty B0 (atoms_spec (ws := Cond.code yC_tick bC_tick 3 (some .int) :: zT) B0.pre _ List.mem_cons_self)
  have hx0 := hR.obj
  refine lv_aload_n hx hb dC_tick_0 rfl (lv_at hl 0 rfl) ?_
  refine lv_iload_n hx hb dC_tick_1 rfl (lv_at hl 1 rfl) ?_
  refine zr_V (As := [.int a]) (rest := []) (q := (RC, TC, 14)) ⟨hx, hb, hml, hown, hz⟩ (kC_isReplica_out l G B M x n mb z st.fl.length st.se st.lo st.go st.pa hn hx0 a ha) (zt_V zm_93 zm_95 zs_2 zm_1 zm_96) rfl rfl rfl (show _ ∧ _ ∧ _ ∧ _ = some 1 from by decide +kernel) ⟨Nat.le_of_ble_eq_true rfl, Nat.le_of_ble_eq_true rfl⟩ zE_blind (zE_at hE hS) hH hK hx0 rfl rfl hl.1 rfl (Nat.le_of_ble_eq_true rfl) dC_tick_2 ⟨Nat.zero_le _, Nat.zero_le _⟩ ?_
  refine zc_ne0 (tgt := 18) hx hb dC_tick_5 (by decide) (by omega) (fun c => ?_) (fun c => ?_)
  · exact absurd rfl c
  · obtain ⟨q0, hq0⟩ := hE.2.2.2.2.2.2.2.2.2 (60, "no such replica") (by decide)
    exact zx_throwS (E := "java/lang/IndexOutOfBoundsException") (names := ["java/lang/RuntimeException", "java/lang/Exception"]) (ic := 62) hx (Launch.traces_off hflag (Stand.of_body B0).admits) hb hemp hlocks hown rfl (by decide) (zx_at hz hE zx_wIOOBE) (hz _ zm_150) (hz _ zm_7) hq0 (hl.1.trans hml.symm) (Nat.le_refl _) dC_tick_8 dC_tick_11 dC_tick_12 dC_tick_14 dC_tick_17 (Nat.le_of_ble_eq_true rfl) (Nat.le_of_ble_eq_true rfl) (Nat.le_of_ble_eq_true rfl) (Nat.le_of_ble_eq_true rfl) (Nat.le_refl _) (Nat.le_refl _)

set_option maxHeartbeats 4000000 in
set_option maxRecDepth 100000 in
theorem tC_tick2 (l : Launch) (hflag : l.flags = flags0) (G : zG) (B : Nat) (M : zw_M) (x z L n mb : Nat) (st : zSt) (qs : List Nat) (g : Nat → Int32) (hn : n ≤ 8) (hR : zCR G M x z L n mb st qs g) (j : Nat) (hj : j < n) (hd : st.dn j = true) : zx_Met l yC_tick (Cond.code yC_tick bC_tick 3 (some .int) :: zT) { frames := 6, cells := 1, slots := 6, locals := 82 } (zp G B M [.ref x, .int (nI j)]) "java/lang/IllegalStateException" 1 6 := by
  refine zx_ofW (cc := bC_tick) (maxL := 3) (ret := (some .int)) (by decide) rfl ?_
  intro p e s m args below meth c s₁ B0 hml hv
  obtain ⟨rfl, hE, hH⟩ := hv
  have hx := B0.exec
  have hb := B0.bytes
  have hr := B0.returns
  have hlocks := B0.notSynchronized
  have hz : ∀ w ∈ zT, w.before _ s = true := fun w h => atoms_spec (ws := Cond.code yC_tick bC_tick 3 (some .int) :: zT) B0.pre w (List.mem_cons_of_mem _ h)
  have hown : s.vm.findClass RC = some m.cls := findClass_of_methodNamed B0.named
  have hK := hE.1
  have hl := lv_entry ([.ref x, .int (nI j)]) (n := 3) (Nat.le_of_ble_eq_true rfl)
  rw [lg_entry_eq]
  generalize (lg_sl ([.ref x, .int (nI j)]) ++ List.replicate (3 - (lg_sl ([.ref x, .int (nI j)])).length) Slot.unset).toArray = ls at hl ⊢
  have hl : lv_has ls 3 [(0, .ref x), (1, .int (nI j))] := hl
  have hS : va_S (zw_A B) s.heap s.heap [] := va_S.rf
  have hemp := zx_empty B0 (atoms_spec (ws := Cond.code yC_tick bC_tick 3 (some .int) :: zT) B0.pre _ List.mem_cons_self)
  have hb1 := zbool (st.dn j)
  have hx0 := hR.obj
  have hdn := hR.dn
  refine lv_aload_n hx hb dC_tick_0 rfl (lv_at hl 0 rfl) ?_
  refine lv_iload_n hx hb dC_tick_1 rfl (lv_at hl 1 rfl) ?_
  refine zr_V (As := [.int (nI j)]) (rest := []) (q := (RC, TC, 14)) ⟨hx, hb, hml, hown, hz⟩ (kC_isReplica_in l G B M x n mb z st.fl.length st.se st.lo st.go st.pa hn hx0 j hj) (zt_V zm_93 zm_95 zs_2 zm_1 zm_96) rfl rfl rfl (show _ ∧ _ ∧ _ ∧ _ = some 1 from by decide +kernel) ⟨Nat.le_of_ble_eq_true rfl, Nat.le_of_ble_eq_true rfl⟩ zE_blind (zE_at hE hS) hH hK hx0 rfl rfl hl.1 rfl (Nat.le_of_ble_eq_true rfl) dC_tick_2 ⟨Nat.zero_le _, Nat.zero_le _⟩ ?_
  refine zc_ne0 (tgt := 18) hx hb dC_tick_5 (by decide) (by omega) (fun c => ?_) (fun c => ?_)
  · refine lv_aload_n hx hb dC_tick_18 rfl (lv_at hl 0 rfl) ?_
    refine va_get (D := G.1) (ci := 1) (v := .ref z) (C := RC) (T := TC) (N := 14) hx hb hz iC hown hK (hH.one hx0) 0 rfl rfl 2 (by decide) (hz _ zm_33) (fun _ h9 => h9) rfl dC_tick_19 ?_
    refine lv_iload_n hx hb dC_tick_22 rfl (lv_at hl 1 rfl) ?_
    refine zw_zald hx hb hK hH 2 hdn rfl (j) rfl (hj) (by omega) dC_tick_23 ?_
    refine zc_eq0 (tgt := 37) hx hb dC_tick_24 (by decide) (by omega) (fun c2 => ?_) (fun c2 => ?_)
    · exact absurd c2 (by rw [hd]; decide)
    · obtain ⟨q0, hq0⟩ := hE.2.2.2.2.2.2.2.2.2 (83, "the replica is down") (by decide)
      exact zx_throwS (E := "java/lang/IllegalStateException") (names := ["java/lang/RuntimeException", "java/lang/Exception"]) (ic := 78) hx (Launch.traces_off hflag (Stand.of_body B0).admits) hb hemp hlocks hown rfl (by decide) (zx_at hz hE zx_wISE) (hz _ zm_234) (hz _ zm_9) hq0 (hl.1.trans hml.symm) (Nat.le_refl _) dC_tick_27 dC_tick_30 dC_tick_31 dC_tick_33 dC_tick_36 (Nat.le_of_ble_eq_true rfl) (Nat.le_of_ble_eq_true rfl) (Nat.le_of_ble_eq_true rfl) (Nat.le_of_ble_eq_true rfl) (Nat.le_refl _) (Nat.le_refl _)
  · exact absurd c (by decide)

set_option maxHeartbeats 4000000 in
set_option maxRecDepth 100000 in
theorem tC_deliver (l : Launch) (hflag : l.flags = flags0) (G : zG) (B : Nat) (M : zw_M) (x z L n mb : Nat) (st : zSt) (qs : List Nat) (g : Nat → Int32) (hn : n ≤ 8) (hR : zCR G M x z L n mb st qs g) (a : Int32) (ha : a < 0 ∨ nI st.fl.length ≤ a) : zx_Met l yC_deliver (Cond.code yC_deliver bC_deliver 3 (some .int) :: zT) { frames := 6, cells := 1, slots := 6, locals := 82 } (zp G B M [.ref x, .int a]) "java/lang/IndexOutOfBoundsException" 1 6 := by
  refine zx_ofW (cc := bC_deliver) (maxL := 3) (ret := (some .int)) (by decide) rfl ?_
  intro p e s m args below meth c s₁ B0 hml hv
  obtain ⟨rfl, hE, hH⟩ := hv
  have hx := B0.exec
  have hb := B0.bytes
  have hr := B0.returns
  have hlocks := B0.notSynchronized
  have hz : ∀ w ∈ zT, w.before _ s = true := fun w h => atoms_spec (ws := Cond.code yC_deliver bC_deliver 3 (some .int) :: zT) B0.pre w (List.mem_cons_of_mem _ h)
  have hown : s.vm.findClass RC = some m.cls := findClass_of_methodNamed B0.named
  have hK := hE.1
  have hl := lv_entry ([.ref x, .int a]) (n := 3) (Nat.le_of_ble_eq_true rfl)
  rw [lg_entry_eq]
  generalize (lg_sl ([.ref x, .int a]) ++ List.replicate (3 - (lg_sl ([.ref x, .int a])).length) Slot.unset).toArray = ls at hl ⊢
  have hl : lv_has ls 3 [(0, .ref x), (1, .int a)] := hl
  have hS : va_S (zw_A B) s.heap s.heap [] := va_S.rf
  have hemp := zx_empty B0 (atoms_spec (ws := Cond.code yC_deliver bC_deliver 3 (some .int) :: zT) B0.pre _ List.mem_cons_self)
  have hx0 := hR.obj
  refine lv_aload_n hx hb dC_deliver_0 rfl (lv_at hl 0 rfl) ?_
  refine lv_iload_n hx hb dC_deliver_1 rfl (lv_at hl 1 rfl) ?_
  refine zr_V (As := [.int a]) (rest := []) (q := (RC, TC, 14)) ⟨hx, hb, hml, hown, hz⟩ (kC_messageAt_out l G B M x n mb z st.fl.length st.se st.lo st.go st.pa hn hx0 a ha) (zt_V zm_81 zm_83 zs_0 zm_1 zm_84) rfl rfl rfl (show _ ∧ _ ∧ _ ∧ _ = some 1 from by decide +kernel) ⟨Nat.le_of_ble_eq_true rfl, Nat.le_of_ble_eq_true rfl⟩ zE_blind (zE_at hE hS) hH hK hx0 rfl rfl hl.1 rfl (Nat.le_of_ble_eq_true rfl) dC_deliver_2 ⟨Nat.zero_le _, Nat.zero_le _⟩ ?_
  refine lv_astore_nN (lv' := [(2, .null), (0, .ref x), (1, .int a)]) hx hb dC_deliver_5 rfl hl (by decide) rfl (fun ls hl => ?_)
  refine lv_aload_nN hx hb dC_deliver_6 rfl (lv_at hl 0 rfl) ?_
  refine lv_ifnonnullN hx hb dC_deliver_7 ?_
  obtain ⟨q0, hq0⟩ := hE.2.2.2.2.2.2.2.2.2 (93, "no such message in flight") (by decide)
  exact zx_throwS (E := "java/lang/IndexOutOfBoundsException") (names := ["java/lang/RuntimeException", "java/lang/Exception"]) (ic := 62) hx (Launch.traces_off hflag (Stand.of_body B0).admits) hb hemp hlocks hown rfl (by decide) (zx_at hz hE zx_wIOOBE) (hz _ zm_150) (hz _ zm_7) hq0 (hl.1.trans hml.symm) (Nat.le_refl _) dC_deliver_10 dC_deliver_13 dC_deliver_14 dC_deliver_16 dC_deliver_19 (Nat.le_of_ble_eq_true rfl) (Nat.le_of_ble_eq_true rfl) (Nat.le_of_ble_eq_true rfl) (Nat.le_of_ble_eq_true rfl) (Nat.le_refl _) (Nat.le_refl _)

set_option maxHeartbeats 4000000 in
set_option maxRecDepth 100000 in
theorem tC_twice (l : Launch) (hflag : l.flags = flags0) (G : zG) (B : Nat) (M : zw_M) (x z L n mb : Nat) (st : zSt) (qs : List Nat) (g : Nat → Int32) (hn : n ≤ 8) (hR : zCR G M x z L n mb st qs g) (a : Int32) (ha : a < 0 ∨ nI st.fl.length ≤ a) : zx_Met l yC_twice (Cond.code yC_twice bC_twice 4 (some .int) :: zT) { frames := 6, cells := 1, slots := 6, locals := 82 } (zp G B M [.ref x, .int a]) "java/lang/IndexOutOfBoundsException" 1 6 := by
  refine zx_ofW (cc := bC_twice) (maxL := 4) (ret := (some .int)) (by decide) rfl ?_
  intro p e s m args below meth c s₁ B0 hml hv
  obtain ⟨rfl, hE, hH⟩ := hv
  have hx := B0.exec
  have hb := B0.bytes
  have hr := B0.returns
  have hlocks := B0.notSynchronized
  have hz : ∀ w ∈ zT, w.before _ s = true := fun w h => atoms_spec (ws := Cond.code yC_twice bC_twice 4 (some .int) :: zT) B0.pre w (List.mem_cons_of_mem _ h)
  have hown : s.vm.findClass RC = some m.cls := findClass_of_methodNamed B0.named
  have hK := hE.1
  have hl := lv_entry ([.ref x, .int a]) (n := 4) (Nat.le_of_ble_eq_true rfl)
  rw [lg_entry_eq]
  generalize (lg_sl ([.ref x, .int a]) ++ List.replicate (4 - (lg_sl ([.ref x, .int a])).length) Slot.unset).toArray = ls at hl ⊢
  have hl : lv_has ls 4 [(0, .ref x), (1, .int a)] := hl
  have hS : va_S (zw_A B) s.heap s.heap [] := va_S.rf
  have hemp := zx_empty B0 (atoms_spec (ws := Cond.code yC_twice bC_twice 4 (some .int) :: zT) B0.pre _ List.mem_cons_self)
  have hx0 := hR.obj
  refine lv_aload_n hx hb dC_twice_0 rfl (lv_at hl 0 rfl) ?_
  refine lv_iload_n hx hb dC_twice_1 rfl (lv_at hl 1 rfl) ?_
  refine zr_V (As := [.int a]) (rest := []) (q := (RC, TC, 14)) ⟨hx, hb, hml, hown, hz⟩ (kC_messageAt_out l G B M x n mb z st.fl.length st.se st.lo st.go st.pa hn hx0 a ha) (zt_V zm_81 zm_83 zs_0 zm_1 zm_84) rfl rfl rfl (show _ ∧ _ ∧ _ ∧ _ = some 1 from by decide +kernel) ⟨Nat.le_of_ble_eq_true rfl, Nat.le_of_ble_eq_true rfl⟩ zE_blind (zE_at hE hS) hH hK hx0 rfl rfl hl.1 rfl (Nat.le_of_ble_eq_true rfl) dC_twice_2 ⟨Nat.zero_le _, Nat.zero_le _⟩ ?_
  refine lv_astore_nN (lv' := [(2, .null), (0, .ref x), (1, .int a)]) hx hb dC_twice_5 rfl hl (by decide) rfl (fun ls hl => ?_)
  refine lv_aload_nN hx hb dC_twice_6 rfl (lv_at hl 0 rfl) ?_
  refine lv_ifnonnullN hx hb dC_twice_7 ?_
  obtain ⟨q0, hq0⟩ := hE.2.2.2.2.2.2.2.2.2 (93, "no such message in flight") (by decide)
  exact zx_throwS (E := "java/lang/IndexOutOfBoundsException") (names := ["java/lang/RuntimeException", "java/lang/Exception"]) (ic := 62) hx (Launch.traces_off hflag (Stand.of_body B0).admits) hb hemp hlocks hown rfl (by decide) (zx_at hz hE zx_wIOOBE) (hz _ zm_150) (hz _ zm_7) hq0 (hl.1.trans hml.symm) (Nat.le_refl _) dC_twice_10 dC_twice_13 dC_twice_14 dC_twice_16 dC_twice_19 (Nat.le_of_ble_eq_true rfl) (Nat.le_of_ble_eq_true rfl) (Nat.le_of_ble_eq_true rfl) (Nat.le_of_ble_eq_true rfl) (Nat.le_refl _) (Nat.le_refl _)

set_option maxHeartbeats 4000000 in
set_option maxRecDepth 100000 in
theorem tC_message1 (l : Launch) (hflag : l.flags = flags0) (G : zG) (B : Nat) (M : zw_M) (x z L n mb : Nat) (st : zSt) (qs : List Nat) (g : Nat → Int32) (hn : n ≤ 8) (hR : zCR G M x z L n mb st qs g) (a wa : Int32) (ha : a < 0 ∨ nI st.fl.length ≤ a) : zx_Met l yC_message (Cond.code yC_message bC_message 4 (some .int) :: zT) { frames := 6, cells := 1, slots := 6, locals := 82 } (zp G B M [.ref x, .int a, .int wa]) "java/lang/IndexOutOfBoundsException" 1 6 := by
  refine zx_ofW (cc := bC_message) (maxL := 4) (ret := (some .int)) (by decide) rfl ?_
  intro p e s m args below meth c s₁ B0 hml hv
  obtain ⟨rfl, hE, hH⟩ := hv
  have hx := B0.exec
  have hb := B0.bytes
  have hr := B0.returns
  have hlocks := B0.notSynchronized
  have hz : ∀ w ∈ zT, w.before _ s = true := fun w h => atoms_spec (ws := Cond.code yC_message bC_message 4 (some .int) :: zT) B0.pre w (List.mem_cons_of_mem _ h)
  have hown : s.vm.findClass RC = some m.cls := findClass_of_methodNamed B0.named
  have hK := hE.1
  have hl := lv_entry ([.ref x, .int a, .int wa]) (n := 4) (Nat.le_of_ble_eq_true rfl)
  rw [lg_entry_eq]
  generalize (lg_sl ([.ref x, .int a, .int wa]) ++ List.replicate (4 - (lg_sl ([.ref x, .int a, .int wa])).length) Slot.unset).toArray = ls at hl ⊢
  have hl : lv_has ls 4 [(0, .ref x), (1, .int a), (2, .int wa)] := hl
  have hS : va_S (zw_A B) s.heap s.heap [] := va_S.rf
  have hemp := zx_empty B0 (atoms_spec (ws := Cond.code yC_message bC_message 4 (some .int) :: zT) B0.pre _ List.mem_cons_self)
  have hx0 := hR.obj
  refine lv_aload_n hx hb dC_message_0 rfl (lv_at hl 0 rfl) ?_
  refine lv_iload_n hx hb dC_message_1 rfl (lv_at hl 1 rfl) ?_
  refine zr_V (As := [.int a]) (rest := []) (q := (RC, TC, 14)) ⟨hx, hb, hml, hown, hz⟩ (kC_messageAt_out l G B M x n mb z st.fl.length st.se st.lo st.go st.pa hn hx0 a ha) (zt_V zm_81 zm_83 zs_0 zm_1 zm_84) rfl rfl rfl (show _ ∧ _ ∧ _ ∧ _ = some 1 from by decide +kernel) ⟨Nat.le_of_ble_eq_true rfl, Nat.le_of_ble_eq_true rfl⟩ zE_blind (zE_at hE hS) hH hK hx0 rfl rfl hl.1 rfl (Nat.le_of_ble_eq_true rfl) dC_message_2 ⟨Nat.zero_le _, Nat.zero_le _⟩ ?_
  refine lv_astore_nN (lv' := [(3, .null), (0, .ref x), (1, .int a), (2, .int wa)]) hx hb dC_message_5 rfl hl (by decide) rfl (fun ls hl => ?_)
  refine lv_aload_nN hx hb dC_message_6 rfl (lv_at hl 0 rfl) ?_
  refine lv_ifnullN (tgt := 19) hx hb dC_message_7 (by decide) ?_
  obtain ⟨q0, hq0⟩ := hE.2.2.2.2.2.2.2.2.2 (145, "no such message in flight, or no such w") (by decide)
  exact zx_throwS (E := "java/lang/IndexOutOfBoundsException") (names := ["java/lang/RuntimeException", "java/lang/Exception"]) (ic := 62) hx (Launch.traces_off hflag (Stand.of_body B0).admits) hb hemp hlocks hown rfl (by decide) (zx_at hz hE zx_wIOOBE) (hz _ zm_150) (hz _ zm_7) hq0 (hl.1.trans hml.symm) (Nat.le_refl _) dC_message_19 dC_message_22 dC_message_23 dC_message_25 dC_message_28 (Nat.le_of_ble_eq_true rfl) (Nat.le_of_ble_eq_true rfl) (Nat.le_of_ble_eq_true rfl) (Nat.le_of_ble_eq_true rfl) (Nat.le_refl _) (Nat.le_refl _)

set_option maxHeartbeats 4000000 in
set_option maxRecDepth 100000 in
theorem tC_message2 (l : Launch) (hflag : l.flags = flags0) (G : zG) (B : Nat) (M : zw_M) (x z L n mb : Nat) (st : zSt) (qs : List Nat) (g : Nat → Int32) (hn : n ≤ 8) (hR : zCR G M x z L n mb st qs g) (h120 : st.fl.length ≤ 120) (j : Nat) (hj : j < st.fl.length) (wa : Int32) (hw : wa < 0 ∨ ¬ wa ≤ nI 4) : zx_Met l yC_message (Cond.code yC_message bC_message 4 (some .int) :: zT) { frames := 6, cells := 1, slots := 6, locals := 82 } (zp G B M [.ref x, .int (nI j), .int wa]) "java/lang/IndexOutOfBoundsException" 1 6 := by
  refine zx_ofW (cc := bC_message) (maxL := 4) (ret := (some .int)) (by decide) rfl ?_
  intro p e s m args below meth c s₁ B0 hml hv
  obtain ⟨rfl, hE, hH⟩ := hv
  have hx := B0.exec
  have hb := B0.bytes
  have hr := B0.returns
  have hlocks := B0.notSynchronized
  have hz : ∀ w ∈ zT, w.before _ s = true := fun w h => atoms_spec (ws := Cond.code yC_message bC_message 4 (some .int) :: zT) B0.pre w (List.mem_cons_of_mem _ h)
  have hown : s.vm.findClass RC = some m.cls := findClass_of_methodNamed B0.named
  have hK := hE.1
  have hl := lv_entry ([.ref x, .int (nI j), .int wa]) (n := 4) (Nat.le_of_ble_eq_true rfl)
  rw [lg_entry_eq]
  generalize (lg_sl ([.ref x, .int (nI j), .int wa]) ++ List.replicate (4 - (lg_sl ([.ref x, .int (nI j), .int wa])).length) Slot.unset).toArray = ls at hl ⊢
  have hl : lv_has ls 4 [(0, .ref x), (1, .int (nI j)), (2, .int wa)] := hl
  have hS : va_S (zw_A B) s.heap s.heap [] := va_S.rf
  have hemp := zx_empty B0 (atoms_spec (ws := Cond.code yC_message bC_message 4 (some .int) :: zT) B0.pre _ List.mem_cons_self)
  obtain ⟨q, mg, hq, -, -⟩ := hR.at hj
  have hx0 := hR.obj
  have hfl := hR.fl
  refine lv_aload_n hx hb dC_message_0 rfl (lv_at hl 0 rfl) ?_
  refine lv_iload_n hx hb dC_message_1 rfl (lv_at hl 1 rfl) ?_
  refine zr_V (As := [.int (nI j)]) (rest := []) (q := (RC, TC, 14)) ⟨hx, hb, hml, hown, hz⟩ (kC_messageAt_in l G B M x n mb z st.fl.length st.se st.lo st.go st.pa hn hx0 (fun i => qs[i]?) hfl h120 j q hj hq) (zt_V zm_81 zm_83 zs_0 zm_1 zm_84) rfl rfl rfl (show _ ∧ _ ∧ _ ∧ _ = some 1 from by decide +kernel) ⟨Nat.le_of_ble_eq_true rfl, Nat.le_of_ble_eq_true rfl⟩ zE_blind (zE_at hE hS) hH hK hx0 rfl rfl hl.1 rfl (Nat.le_of_ble_eq_true rfl) dC_message_2 ⟨Nat.zero_le _, Nat.zero_le _⟩ ?_
  refine lv_astore_n (lv' := [(3, .ref q), (0, .ref x), (1, .int (nI j)), (2, .int wa)]) hx hb dC_message_5 rfl hl (by decide) rfl (fun ls hl => ?_)
  refine lv_aload_n hx hb dC_message_6 rfl (lv_at hl 0 rfl) ?_
  refine lv_ifnull hx hb dC_message_7 ?_
  refine lv_iload_n hx hb dC_message_10 rfl (lv_at hl 3 rfl) ?_
  refine lv_if_lt (tgt := 19) hx hb dC_message_11 (by decide) (fun c => ?_) (fun c => ?_)
  · obtain ⟨q0, hq0⟩ := hE.2.2.2.2.2.2.2.2.2 (145, "no such message in flight, or no such w") (by decide)
    exact zx_throwS (E := "java/lang/IndexOutOfBoundsException") (names := ["java/lang/RuntimeException", "java/lang/Exception"]) (ic := 62) hx (Launch.traces_off hflag (Stand.of_body B0).admits) hb hemp hlocks hown rfl (by decide) (zx_at hz hE zx_wIOOBE) (hz _ zm_150) (hz _ zm_7) hq0 (hl.1.trans hml.symm) (Nat.le_refl _) dC_message_19 dC_message_22 dC_message_23 dC_message_25 dC_message_28 (Nat.le_of_ble_eq_true rfl) (Nat.le_of_ble_eq_true rfl) (Nat.le_of_ble_eq_true rfl) (Nat.le_of_ble_eq_true rfl) (Nat.le_refl _) (Nat.le_refl _)
  · refine lv_iload_n hx hb dC_message_14 rfl (lv_at hl 3 rfl) ?_
    refine lv_iconst (v := nI 4) hx hb dC_message_15 (by decide) ?_
    refine lv_icmp_le (tgt := 29) hx hb dC_message_16 (by decide) (fun c2 => ?_) (fun c2 => ?_)
    · exact absurd c2 (hw.resolve_left c)
    · obtain ⟨q0, hq0⟩ := hE.2.2.2.2.2.2.2.2.2 (145, "no such message in flight, or no such w") (by decide)
      exact zx_throwS (E := "java/lang/IndexOutOfBoundsException") (names := ["java/lang/RuntimeException", "java/lang/Exception"]) (ic := 62) hx (Launch.traces_off hflag (Stand.of_body B0).admits) hb hemp hlocks hown rfl (by decide) (zx_at hz hE zx_wIOOBE) (hz _ zm_150) (hz _ zm_7) hq0 (hl.1.trans hml.symm) (Nat.le_refl _) dC_message_19 dC_message_22 dC_message_23 dC_message_25 dC_message_28 (Nat.le_of_ble_eq_true rfl) (Nat.le_of_ble_eq_true rfl) (Nat.le_of_ble_eq_true rfl) (Nat.le_of_ble_eq_true rfl) (Nat.le_refl _) (Nat.le_refl _)

set_option maxHeartbeats 4000000 in
set_option maxRecDepth 100000 in
theorem tC_clock (l : Launch) (hflag : l.flags = flags0) (G : zG) (B : Nat) (M : zw_M) (x z L n mb : Nat) (st : zSt) (qs : List Nat) (g : Nat → Int32) (hn : n ≤ 8) (hR : zCR G M x z L n mb st qs g) (a : Int32) (ha : a < 0 ∨ nI n ≤ a) : zx_Met l yC_clock (Cond.code yC_clock bC_clock 2 (some .long) :: zT) { frames := 6, cells := 1, slots := 6, locals := 82 } (zp G B M [.ref x, .int a]) "java/lang/IndexOutOfBoundsException" 1 6 := by
  refine zx_ofW (cc := bC_clock) (maxL := 2) (ret := (some .long)) (by decide) rfl ?_
  intro p e s m args below meth c s₁ B0 hml hv
  obtain ⟨rfl, hE, hH⟩ := hv
  have hx := B0.exec
  have hb := B0.bytes
  have hr := B0.returns
  have hlocks := B0.notSynchronized
  have hz : ∀ w ∈ zT, w.before _ s = true := fun w h => atoms_spec (ws := Cond.code yC_clock bC_clock 2 (some .long) :: zT) B0.pre w (List.mem_cons_of_mem _ h)
  have hown : s.vm.findClass RC = some m.cls := findClass_of_methodNamed B0.named
  have hK := hE.1
  have hl := lv_entry ([.ref x, .int a]) (n := 2) (Nat.le_of_ble_eq_true rfl)
  rw [lg_entry_eq]
  generalize (lg_sl ([.ref x, .int a]) ++ List.replicate (2 - (lg_sl ([.ref x, .int a])).length) Slot.unset).toArray = ls at hl ⊢
  have hl : lv_has ls 2 [(0, .ref x), (1, .int a)] := hl
  have hS : va_S (zw_A B) s.heap s.heap [] := va_S.rf
  have hemp := zx_empty B0 (atoms_spec (ws := Cond.code yC_clock bC_clock 2 (some .long) :: zT) B0.pre _ List.mem_cons_self)
  have hx0 := hR.obj
  refine lv_aload_n hx hb dC_clock_0 rfl (lv_at hl 0 rfl) ?_
  refine lv_iload_n hx hb dC_clock_1 rfl (lv_at hl 1 rfl) ?_
  refine zr_V (As := [.int a]) (rest := []) (q := (RC, TC, 14)) ⟨hx, hb, hml, hown, hz⟩ (kC_isReplica_out l G B M x n mb z st.fl.length st.se st.lo st.go st.pa hn hx0 a ha) (zt_V zm_93 zm_95 zs_2 zm_1 zm_96) rfl rfl rfl (show _ ∧ _ ∧ _ ∧ _ = some 1 from by decide +kernel) ⟨Nat.le_of_ble_eq_true rfl, Nat.le_of_ble_eq_true rfl⟩ zE_blind (zE_at hE hS) hH hK hx0 rfl rfl hl.1 rfl (Nat.le_of_ble_eq_true rfl) dC_clock_2 ⟨Nat.zero_le _, Nat.zero_le _⟩ ?_
  refine zc_ne0 (tgt := 18) hx hb dC_clock_5 (by decide) (by omega) (fun c => ?_) (fun c => ?_)
  · exact absurd rfl c
  · obtain ⟨q0, hq0⟩ := hE.2.2.2.2.2.2.2.2.2 (60, "no such replica") (by decide)
    exact zx_throwS (E := "java/lang/IndexOutOfBoundsException") (names := ["java/lang/RuntimeException", "java/lang/Exception"]) (ic := 62) hx (Launch.traces_off hflag (Stand.of_body B0).admits) hb hemp hlocks hown rfl (by decide) (zx_at hz hE zx_wIOOBE) (hz _ zm_150) (hz _ zm_7) hq0 (hl.1.trans hml.symm) (Nat.le_refl _) dC_clock_8 dC_clock_11 dC_clock_12 dC_clock_14 dC_clock_17 (Nat.le_of_ble_eq_true rfl) (Nat.le_of_ble_eq_true rfl) (Nat.le_of_ble_eq_true rfl) (Nat.le_of_ble_eq_true rfl) (Nat.le_refl _) (Nat.le_refl _)

set_option maxHeartbeats 4000000 in
set_option maxRecDepth 100000 in
theorem tC_lacks (l : Launch) (hflag : l.flags = flags0) (G : zG) (B : Nat) (M : zw_M) (x z L n mb : Nat) (st : zSt) (qs : List Nat) (g : Nat → Int32) (hn : n ≤ 8) (hR : zCR G M x z L n mb st qs g) (a : Int32) (ha : a < 0 ∨ nI n ≤ a) : zx_Met l yC_lacks (Cond.code yC_lacks bC_lacks 2 (some .int) :: zT) { frames := 6, cells := 1, slots := 6, locals := 82 } (zp G B M [.ref x, .int a]) "java/lang/IndexOutOfBoundsException" 1 6 := by
  refine zx_ofW (cc := bC_lacks) (maxL := 2) (ret := (some .int)) (by decide) rfl ?_
  intro p e s m args below meth c s₁ B0 hml hv
  obtain ⟨rfl, hE, hH⟩ := hv
  have hx := B0.exec
  have hb := B0.bytes
  have hr := B0.returns
  have hlocks := B0.notSynchronized
  have hz : ∀ w ∈ zT, w.before _ s = true := fun w h => atoms_spec (ws := Cond.code yC_lacks bC_lacks 2 (some .int) :: zT) B0.pre w (List.mem_cons_of_mem _ h)
  have hown : s.vm.findClass RC = some m.cls := findClass_of_methodNamed B0.named
  have hK := hE.1
  have hl := lv_entry ([.ref x, .int a]) (n := 2) (Nat.le_of_ble_eq_true rfl)
  rw [lg_entry_eq]
  generalize (lg_sl ([.ref x, .int a]) ++ List.replicate (2 - (lg_sl ([.ref x, .int a])).length) Slot.unset).toArray = ls at hl ⊢
  have hl : lv_has ls 2 [(0, .ref x), (1, .int a)] := hl
  have hS : va_S (zw_A B) s.heap s.heap [] := va_S.rf
  have hemp := zx_empty B0 (atoms_spec (ws := Cond.code yC_lacks bC_lacks 2 (some .int) :: zT) B0.pre _ List.mem_cons_self)
  have hx0 := hR.obj
  refine lv_aload_n hx hb dC_lacks_0 rfl (lv_at hl 0 rfl) ?_
  refine lv_iload_n hx hb dC_lacks_1 rfl (lv_at hl 1 rfl) ?_
  refine zr_V (As := [.int a]) (rest := []) (q := (RC, TC, 14)) ⟨hx, hb, hml, hown, hz⟩ (kC_isReplica_out l G B M x n mb z st.fl.length st.se st.lo st.go st.pa hn hx0 a ha) (zt_V zm_93 zm_95 zs_2 zm_1 zm_96) rfl rfl rfl (show _ ∧ _ ∧ _ ∧ _ = some 1 from by decide +kernel) ⟨Nat.le_of_ble_eq_true rfl, Nat.le_of_ble_eq_true rfl⟩ zE_blind (zE_at hE hS) hH hK hx0 rfl rfl hl.1 rfl (Nat.le_of_ble_eq_true rfl) dC_lacks_2 ⟨Nat.zero_le _, Nat.zero_le _⟩ ?_
  refine zc_ne0 (tgt := 18) hx hb dC_lacks_5 (by decide) (by omega) (fun c => ?_) (fun c => ?_)
  · exact absurd rfl c
  · obtain ⟨q0, hq0⟩ := hE.2.2.2.2.2.2.2.2.2 (60, "no such replica") (by decide)
    exact zx_throwS (E := "java/lang/IndexOutOfBoundsException") (names := ["java/lang/RuntimeException", "java/lang/Exception"]) (ic := 62) hx (Launch.traces_off hflag (Stand.of_body B0).admits) hb hemp hlocks hown rfl (by decide) (zx_at hz hE zx_wIOOBE) (hz _ zm_150) (hz _ zm_7) hq0 (hl.1.trans hml.symm) (Nat.le_refl _) dC_lacks_8 dC_lacks_11 dC_lacks_12 dC_lacks_14 dC_lacks_17 (Nat.le_of_ble_eq_true rfl) (Nat.le_of_ble_eq_true rfl) (Nat.le_of_ble_eq_true rfl) (Nat.le_of_ble_eq_true rfl) (Nat.le_refl _) (Nat.le_refl _)

