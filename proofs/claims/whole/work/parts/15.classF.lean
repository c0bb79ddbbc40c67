/-! THE CLASS: Arrays.copyOf, sendGathered -/
set_option maxHeartbeats 4000000 in
set_option maxRecDepth 100000 in
theorem kA_copyOf_less (l : Launch) (G : zG) (B : Nat) (M : zw_M) (sz : Nat) (a N k : Nat) (f : Nat → Int32) (ha : M a = some (.inl (G.2.1 0, N, .inl f))) (hN : N ≤ 480) (hk : k < N) : Met l yA_copyOf (Cond.code yA_copyOf bA_copyOf 3 (some (.array .int)) :: zT) { frames := 1, cells := 1, slots := k, locals := 40 } (zq G B M sz [.ref a, .int (nI k)]) (va_Qr (fun _ => True) (fun (u : zw_M × Nat) (r : Nat) (t : State) => zr_o G.1 zCl B u t ∧ (sz ≤ r ∧ (∃ f2, u.1 r = some (.inl (G.2.1 0, k, .inl f2)) ∧ ∀ i, i < k → f2 i = f i) ∧ (∀ q : Nat, q < sz → u.1 q = M q) ∧ sz ≤ u.2)) (zw_A B)) (1) (k) (zw_A B) := by
  refine Met.ofW (cc := bA_copyOf) (maxL := 3) (ret := (some (.array .int))) (by decide) rfl ?_
  intro p e s m args below meth c s₁ B0 hml hv
  obtain ⟨rfl, hE, hH, hsz⟩ := hv
  have hx := B0.exec
  have hb := B0.bytes
  have hr := B0.returns
  have hlocks := B0.notSynchronized
  have hz : ∀ w ∈ zT, w.before _ s = true := fun w h => atoms_spec (ws := Cond.code yA_copyOf bA_copyOf 3 (some (.array .int)) :: zT) B0.pre w (List.mem_cons_of_mem _ h)
  have hown : s.vm.findClass RA = some m.cls := findClass_of_methodNamed B0.named
  have hK := hE.1
  have hl := lv_entry ([.ref a, .int (nI k)]) (n := 3) (Nat.le_of_ble_eq_true rfl)
  rw [lg_entry_eq]
  generalize (lg_sl ([.ref a, .int (nI k)]) ++ List.replicate (3 - (lg_sl ([.ref a, .int (nI k)])).length) Slot.unset).toArray = ls at hl ⊢
  have hl : lv_has ls 3 [(0, .ref a), (1, .int (nI k))] := hl
  have hS : va_S (zw_A B) s.heap s.heap [] := va_S.rf
  have hin : meth.name = "copyOf" := (name_of_methodNamed B0.named B0.method).1
  have hlt0 : ∀ (a : Nat) (e : va_E), M a = some e → a < sz := fun a e h => by rw [← hsz]; exact hH.lt h
  refine lv_iload_n hx hb dA_copyOf_0 rfl (lv_at hl 1 rfl) ?_
  refine lv_aload_n hx hb dA_copyOf_1 rfl (lv_at hl 0 rfl) ?_
  refine zw_alen hx hb hK hH 0 ha rfl dA_copyOf_2 ?_
  refine zw_ti (v' := nI N) rfl ?_
  refine zc_ne (tgt := 14) hx hb dA_copyOf_3 (by decide) (by omega) (by omega) (fun c => ?_) (fun c => ?_)
  · refine lv_iload_n hx hb dA_copyOf_14 rfl (lv_at hl 1 rfl) ?_
    refine zw_newa (atype := .int) (cA := G.2.1 0) (a0 := (k, .inl (fun _ => 0))) hx hb (hz _ zm_76) hK hH hS (Nat.le_trans hE.2.1 hS.1) 0 rfl rfl rfl (by omega) (Nat.le_of_ble_eq_true rfl) (by show 0 + k ≤ k; omega) dA_copyOf_15 (fun H1 hH hz1 hS => ?_)
    rw [hsz] at hH hz1 ⊢
    have hsz : H1.size = sz + 1 := hz1
    have hasz : a ≠ sz := Nat.ne_of_lt (hlt0 a _ ha)
    obtain ⟨M1, hM1⟩ : ∃ Mq, Mq = zw_u M sz (.inl (G.2.1 0, k, .inl (fun _ => 0))) := ⟨_, rfl⟩
    have hH : zw_H G.1 zCl B M1 H1 := by rw [hM1]; exact hH
    have ha : M1 a = some (.inl (G.2.1 0, N, .inl f)) := by rw [hM1, zw_un _ _ (hasz)]; exact ha
    have hd : M1 sz = some (.inl (G.2.1 0, k, .inl (fun _ => 0))) := by rw [hM1]; exact zw_us _ _ _
    refine lv_astore_n (lv' := [(2, .ref sz), (0, .ref a), (1, .int (nI k))]) hx hb dA_copyOf_17 rfl hl (by decide) rfl (fun ls hl => ?_)
    refine lv_aload_n hx hb dA_copyOf_18 rfl (lv_at hl 1 rfl) ?_
    refine lv_iconst (v := nI 0) hx hb dA_copyOf_19 (by decide) ?_
    refine lv_aload_n hx hb dA_copyOf_20 rfl (lv_at hl 0 rfl) ?_
    refine lv_iconst (v := nI 0) hx hb dA_copyOf_21 (by decide) ?_
    refine lv_aload_n hx hb dA_copyOf_22 rfl (lv_at hl 1 rfl) ?_
    refine zw_alen hx hb hK hH 0 ha rfl dA_copyOf_23 ?_
    refine zw_ti (v' := nI N) rfl ?_
    refine lv_iload_n hx hb dA_copyOf_24 rfl (lv_at hl 2 rfl) ?_
    refine va_mmin hx hb (by rw [hml]; exact hl.1.symm) hown (hz _ zm_344) (hz _ zm_22) (hz _ zm_2) (hz _ zm_23) (Nat.le_of_ble_eq_true rfl) (Nat.le_of_ble_eq_true rfl) (Nat.le_of_ble_eq_true rfl) (by show 0 + k ≤ k; omega) dA_copyOf_25 ?_
    refine zw_ti (if_pos (nI_lt hk (by omega))) ?_
    refine zw_copyi hx hb (by rw [hml]; exact hl.1.symm) hown (hz _ zm_345) (hz _ zm_347) (hz _ zm_346) (hz _ zm_12) hK hH hS 0 ha hd hasz rfl (by omega) (by omega) (Nat.le_refl _) (Nat.le_of_ble_eq_true rfl) (Nat.le_of_ble_eq_true rfl) dA_copyOf_28 (fun H2 L2 hH hz2 hS => ?_)
    obtain ⟨M2, hM2⟩ : ∃ Mq, Mq = zw_u M1 sz (.inl (G.2.1 0, k, .inl (va_cpy f (fun _ => 0) 0 0 k))) := ⟨_, rfl⟩
    rw [← hM2] at hH
    refine lv_aload_n hx hb dA_copyOf_31 rfl (lv_at hl 0 rfl) ?_
    refine W.widen (k := 1) (n := k) (by omega) (by omega) ?_
    exact W.aret (v := .ref sz) hx hb hr (Or.inr ⟨_, rfl⟩) (Or.inr ⟨_, rfl⟩) (fun t ht hW => ⟨⟨(M2, H2.size), _, rfl, trivial, ⟨by rw [ht]; exact hH, by rw [ht]⟩, ⟨Nat.le_refl _, ⟨_, by rw [hM2]; exact zw_us _ _ _, fun i hi => by show (if 0 ≤ i ∧ i < 0 + k then f (0 + (i - 0)) else _) = _; rw [if_pos (by omega)]; congr 1; omega⟩, fun q hq => by show M2 q = M q; rw [hM2, zw_un _ _ (by omega), hM1, zw_un _ _ (by omega)], by show sz ≤ H2.size; omega⟩⟩, hS.F ht⟩) hS.2.2 dA_copyOf_32
  · exact absurd c (by omega)

set_option maxHeartbeats 4000000 in
set_option maxRecDepth 100000 in
theorem kA_copyOf_all (l : Launch) (G : zG) (B : Nat) (M : zw_M) (sz : Nat) (a N k : Nat) (f : Nat → Int32) (ha : M a = some (.inl (G.2.1 0, N, .inl f))) (hN : N ≤ 480) (hk : k = N) : Met l yA_copyOf (Cond.code yA_copyOf bA_copyOf 3 (some (.array .int)) :: zT) { frames := 1, cells := 1, slots := k, locals := 40 } (zq G B M sz [.ref a, .int (nI k)]) (va_Qr (fun _ => True) (fun (u : zw_M × Nat) (r : Nat) (t : State) => zr_o G.1 zCl B u t ∧ (sz ≤ r ∧ (∃ f2, u.1 r = some (.inl (G.2.1 0, k, .inl f2)) ∧ ∀ i, i < k → f2 i = f i) ∧ (∀ q : Nat, q < sz → u.1 q = M q) ∧ sz ≤ u.2)) (zw_A B)) (1) (k) (zw_A B) := by
  refine Met.ofW (cc := bA_copyOf) (maxL := 3) (ret := (some (.array .int))) (by decide) rfl ?_
  intro p e s m args below meth c s₁ B0 hml hv
  obtain ⟨rfl, hE, hH, hsz⟩ := hv
  have hx := B0.exec
  have hb := B0.bytes
  have hr := B0.returns
  have hlocks := B0.notSynchronized
  have hz : ∀ w ∈ zT, w.before _ s = true := fun w h => atoms_spec (ws := Cond.code yA_copyOf bA_copyOf 3 (some (.array .int)) :: zT) B0.pre w (List.mem_cons_of_mem _ h)
  have hown : s.vm.findClass RA = some m.cls := findClass_of_methodNamed B0.named
  have hK := hE.1
  have hl := lv_entry ([.ref a, .int (nI k)]) (n := 3) (Nat.le_of_ble_eq_true rfl)
  rw [lg_entry_eq]
  generalize (lg_sl ([.ref a, .int (nI k)]) ++ List.replicate (3 - (lg_sl ([.ref a, .int (nI k)])).length) Slot.unset).toArray = ls at hl ⊢
  have hl : lv_has ls 3 [(0, .ref a), (1, .int (nI k))] := hl
  have hS : va_S (zw_A B) s.heap s.heap [] := va_S.rf
  have hin : meth.name = "copyOf" := (name_of_methodNamed B0.named B0.method).1
  have hlt0 : ∀ (a : Nat) (e : va_E), M a = some e → a < sz := fun a e h => by rw [← hsz]; exact hH.lt h
  subst hk
  refine lv_iload_n hx hb dA_copyOf_0 rfl (lv_at hl 1 rfl) ?_
  refine lv_aload_n hx hb dA_copyOf_1 rfl (lv_at hl 0 rfl) ?_
  refine zw_alen hx hb hK hH 0 ha rfl dA_copyOf_2 ?_
  refine zw_ti (v' := nI k) rfl ?_
  refine zc_ne (tgt := 14) hx hb dA_copyOf_3 (by decide) (by omega) (by omega) (fun c => ?_) (fun c => ?_)
  · exact absurd rfl c
  · refine lv_aload_n hx hb dA_copyOf_6 rfl (lv_at hl 0 rfl) ?_
    have hnm : s.vm.findClass "[I" = some (G.2.1 0) := (hK.2 0 _ rfl).2
    refine zw_clone (ad := "[I") hx hb (by rw [hml]; exact hl.1.symm) hown (hz _ zm_337) (va_tabs (by rfl) rfl (hE.2.2.2.2.1 _ (by decide +kernel))) (hz _ zm_339) (hz _ zm_340) (hz _ zm_341) (hE.2.2.2.2.1 _ (by decide +kernel)) hK hH hS (Nat.le_trans hE.2.1 hS.1) 0 ha rfl hnm (Nat.le_of_ble_eq_true rfl) (Nat.le_of_ble_eq_true rfl) (Nat.le_of_ble_eq_true rfl) (by show 0 + k ≤ k; omega) dA_copyOf_7 (fun q H1 hq hH hz2 hS => ?_)
    rw [hsz] at hq hz2
    obtain ⟨M1, hM1⟩ : ∃ Mq, Mq = zw_u M q (.inl (G.2.1 0, k, .inl f)) := ⟨_, rfl⟩
    rw [← hM1] at hH
    refine va_castA hx hb hown (hz _ zm_343) (hH.one (a := q) (by rw [hM1]; exact zw_us _ _ _)) 0 rfl hnm dA_copyOf_10 ?_
    refine W.widen (k := 1) (n := k) (by omega) (by omega) ?_
    exact W.aret (v := .ref q) hx hb hr (Or.inr ⟨_, rfl⟩) (Or.inr ⟨_, rfl⟩) (fun t ht hW => ⟨⟨(M1, H1.size), _, rfl, trivial, ⟨by rw [ht]; exact hH, by rw [ht]⟩, ⟨hq, ⟨_, by rw [hM1]; exact zw_us _ _ _, fun i hi => rfl⟩, fun q2 hq2 => by show M1 q2 = M q2; rw [hM1, zw_un _ _ (by omega)], by show sz ≤ H1.size; omega⟩⟩, hS.F ht⟩) hS.2.2 dA_copyOf_13

theorem kA_copyOf (l : Launch) (G : zG) (B : Nat) (M : zw_M) (sz : Nat) (a N k : Nat) (f : Nat → Int32) (ha : M a = some (.inl (G.2.1 0, N, .inl f))) (hN : N ≤ 480) (hk : k ≤ N) : Met l yA_copyOf (Cond.code yA_copyOf bA_copyOf 3 (some (.array .int)) :: zT) { frames := 1, cells := 1, slots := k, locals := 40 } (zq G B M sz [.ref a, .int (nI k)]) (va_Qr (fun _ => True) (fun (u : zw_M × Nat) (r : Nat) (t : State) => zr_o G.1 zCl B u t ∧ (sz ≤ r ∧ (∃ f2, u.1 r = some (.inl (G.2.1 0, k, .inl f2)) ∧ ∀ i, i < k → f2 i = f i) ∧ (∀ q : Nat, q < sz → u.1 q = M q) ∧ sz ≤ u.2)) (zw_A B)) (1) (k) (zw_A B) := by
  by_cases h : k = N
  · exact kA_copyOf_all l G B M sz a N k f ha hN h
  · exact kA_copyOf_less l G B M sz a N k f ha hN (by omega)
set_option maxHeartbeats 4000000 in
set_option maxRecDepth 100000 in
theorem kC_sendGathered_yes (l : Launch) (G : zG) (B : Nat) (M : zw_M) (sz : Nat) (x z L n mb : Nat) (st : zSt) (qs : List Nat) (g : Nat → Int32) (hn : n ≤ 8) (hR : zCR G M x z L n mb st qs g) (hL : L < sz) (j k by0 : Nat) (pt : List Nat) (hptl : pt.length ≤ n * 60) (hpt : ∀ i, i < pt.length → g i = nI (pt.getD i 0)) (hlt : st.fl.length < 120) : Met l yC_sendGathered (Cond.code yC_sendGathered bC_sendGathered 6 none :: zT) { frames := 2, cells := 2, slots := 6 + pt.length, locals := 70 } (zq G B M sz [.ref x, .int (nI j), .int (nI k), .int (nI by0), .int (nI pt.length)]) (va_Qv (fun (u : zw_M × Nat) => zCO G x z L n mb sz M (zsend st j k by0 none pt) u) (zr_o G.1 zCl B) (zw_A B)) (2) (6 + pt.length) (zw_A B) := by
  refine Met.ofW (cc := bC_sendGathered) (maxL := 6) (ret := none) (by decide) rfl ?_
  intro p e s m args below meth c s₁ B0 hml hv
  obtain ⟨rfl, hE, hH, hsz⟩ := hv
  have hx := B0.exec
  have hb := B0.bytes
  have hr := B0.returns
  have hlocks := B0.notSynchronized
  have hz : ∀ w ∈ zT, w.before _ s = true := fun w h => atoms_spec (ws := Cond.code yC_sendGathered bC_sendGathered 6 none :: zT) B0.pre w (List.mem_cons_of_mem _ h)
  have hown : s.vm.findClass RC = some m.cls := findClass_of_methodNamed B0.named
  have hK := hE.1
  have hl := lv_entry ([.ref x, .int (nI j), .int (nI k), .int (nI by0), .int (nI pt.length)]) (n := 6) (Nat.le_of_ble_eq_true rfl)
  rw [lg_entry_eq]
  generalize (lg_sl ([.ref x, .int (nI j), .int (nI k), .int (nI by0), .int (nI pt.length)]) ++ List.replicate (6 - (lg_sl ([.ref x, .int (nI j), .int (nI k), .int (nI by0), .int (nI pt.length)])).length) Slot.unset).toArray = ls at hl ⊢
  have hl : lv_has ls 6 [(0, .ref x), (1, .int (nI j)), (2, .int (nI k)), (3, .int (nI by0)), (4, .int (nI pt.length))] := hl
  have hS : va_S (zw_A B) s.heap s.heap [] := va_S.rf
  have hin : meth.name = "sendGathered" := (name_of_methodNamed B0.named B0.method).1
  have hlt0 : ∀ (a : Nat) (e : va_E), M a = some e → a < sz := fun a e h => by rw [← hsz]; exact hH.lt h
  have hx0 := hR.obj
  have hga := hR.ga
  have hfl := hR.fl
  have hxz := hR.xz
  have hzL := hR.zL
  refine lv_aload_n hx hb dC_sendGathered_0 rfl (lv_at hl 0 rfl) ?_
  refine va_get (D := G.1) (ci := 1) (v := .int (nI st.se)) (C := RC) (T := TC) (N := 14) hx hb hz iC hown hK (hH.one hx0) 0 rfl rfl 10 (by decide) (hz _ zm_41) (fun _ h9 => h9) rfl dC_sendGathered_1 ?_
  refine lv_istore (lv' := [(5, .int (nI st.se)), (0, .ref x), (1, .int (nI j)), (2, .int (nI k)), (3, .int (nI by0)), (4, .int (nI pt.length))]) hx hb dC_sendGathered_4 hl (by decide) rfl (fun ls hl => ?_)
  refine lv_aload_n hx hb dC_sendGathered_6 rfl (lv_at hl 1 rfl) ?_
  refine zr_Vi (As := []) (rest := []) (q := (RC, TC, 14)) (mc := 0) (ms := 0) ⟨hx, hb, hml, hown, hz⟩ (kC_count_yes l G B M _ x n mb z st.fl.length st.se st.lo st.go st.pa hn hx0 hlt) (zt_V zm_272 zm_274 zs_10 zm_1 zm_275) rfl rfl rfl (show _ ∧ _ ∧ _ ∧ _ = some 0 from by decide +kernel) ⟨Nat.le_of_ble_eq_true rfl, Nat.le_of_ble_eq_true rfl⟩ zE_blind (zE_at hE hS) hH hK hx0 rfl rfl hS hl.1 rfl (Nat.le_of_ble_eq_true rfl) dC_sendGathered_7 ⟨Nat.le_of_ble_eq_true rfl, Nat.zero_le _⟩ (fun r1 M1 sz1 H1 L1 hp hH hz1 hz2 hS => ?_)
  obtain ⟨rfl, hp⟩ := hp
  have hM1 := (Prod.mk.inj hp).1
  have hsz : H1.size = sz := hz1.trans ((Prod.mk.inj hp).2.trans hsz)
  have hga : M1 (z + 6 + 2 * n) = some (.inl (G.2.1 0, n * 60, .inl g)) := by rw [hM1, zw_un _ _ (by omega)]; exact hga
  have hfl : M1 (z + 5 + 2 * n) = some (.inl (G.2.1 3, 120, .inr (.inr (.inr (.inr (fun i => qs[i]?)))))) := by rw [hM1, zw_un _ _ (by omega)]; exact hfl
  have hx0 : M1 x = some (.inr (1, zoC n mb z st.fl.length (st.se + 1) st.lo st.go st.pa)) := by rw [hM1]; exact zw_us _ _ _
  refine zc_eq0 (tgt := 41) hx hb dC_sendGathered_10 (by decide) (by omega) (fun c => ?_) (fun c => ?_)
  · exact absurd c (by decide)
  · refine lv_aload_n hx hb dC_sendGathered_13 rfl (lv_at hl 1 rfl) ?_
    refine zw_new (D := G.1) (ci := 0) (fs := [.int 0, .int 0, .int 0, .int 0, .long 0, .null]) (C := RM) (T := TM) (N := 6) hx hb hz iM tM tM_ok hown (hz _ zm_29) (hz _ zm_276) (hz _ zm_10) hK hH hS (Nat.le_trans hE.2.1 hS.1) rfl zM_def (Nat.le_of_ble_eq_true rfl) (by show 0 + 6 ≤ 6 + pt.length; omega) dC_sendGathered_14 (fun H2 hH hz1 hS => ?_)
    rw [hsz] at hH hz1 ⊢
    have hsz : H2.size = sz + 1 := hz1
    obtain ⟨M2, hM2⟩ : ∃ Mq, Mq = zw_u M1 sz (.inr (0, [.int 0, .int 0, .int 0, .int 0, .long 0, .null])) := ⟨_, rfl⟩
    have hH : zw_H G.1 zCl B M2 H2 := by rw [hM2]; exact hH
    have hga : M2 (z + 6 + 2 * n) = some (.inl (G.2.1 0, n * 60, .inl g)) := by rw [hM2, zw_un _ _ (by omega)]; exact hga
    have hfl : M2 (z + 5 + 2 * n) = some (.inl (G.2.1 3, 120, .inr (.inr (.inr (.inr (fun i => qs[i]?)))))) := by rw [hM2, zw_un _ _ (by omega)]; exact hfl
    have hx0 : M2 x = some (.inr (1, zoC n mb z st.fl.length (st.se + 1) st.lo st.go st.pa)) := by rw [hM2, zw_un _ _ (by omega)]; exact hx0
    have hq0 : M2 sz = some (.inr (0, [.int 0, .int 0, .int 0, .int 0, .long 0, .null])) := by rw [hM2]; exact zw_us _ _ _
    refine lv_dup hx hb dC_sendGathered_17 rfl ?_
    refine lv_iload hx hb dC_sendGathered_18 (lv_at hl 0 rfl) ?_
    refine lv_iload_n hx hb dC_sendGathered_20 rfl (lv_at hl 2 rfl) ?_
    refine lv_iload_n hx hb dC_sendGathered_21 rfl (lv_at hl 3 rfl) ?_
    refine lv_iload_n hx hb dC_sendGathered_22 rfl (lv_at hl 4 rfl) ?_
    refine lv_ldc2 hx hb hown (hz _ zm_105) dC_sendGathered_23 ?_
    refine lv_aload_n hx hb dC_sendGathered_26 rfl (lv_at hl 1 rfl) ?_
    refine va_get (D := G.1) (ci := 1) (v := .ref (z + 6 + 2 * n)) (C := RC) (T := TC) (N := 14) hx hb hz iC hown hK (hH.one hx0) 0 rfl rfl 9 (by decide) (hz _ zm_40) (fun _ h9 => h9) rfl dC_sendGathered_27 ?_
    refine lv_iload hx hb dC_sendGathered_30 (lv_at hl 5 rfl) ?_
    refine zr_Sr (As := [.ref (z + 6 + 2 * n), .int (nI pt.length)]) (rest := [.long (-1), .int (nI by0), .int (nI k), .int (nI j), .int (nI st.se), .ref sz, .ref sz, .ref x]) (mc := 1) (ms := pt.length) ⟨hx, hb, hml, hown, hz⟩ (kA_copyOf l G B M2 _ (z + 6 + 2 * n) (n * 60) pt.length g hga (by omega) hptl) (zt_I zm_336) rfl rfl rfl (hz _ zm_11) (hz _ zm_334) (hz _ zm_335) (show _ ∧ _ ∧ _ = some 2 from by decide +kernel) ⟨Nat.le_of_ble_eq_true rfl, Nat.le_of_ble_eq_true rfl⟩ (Nat.le_of_ble_eq_true rfl) zE_blind (zE_at hE hS) hH hS hl.1 rfl (Nat.le_of_ble_eq_true rfl) dC_sendGathered_32 ⟨Nat.le_of_ble_eq_true rfl, by show 0 + 6 + pt.length ≤ 6 + pt.length; omega⟩ (fun ch M3 sz3 H3 L3 hp hH hz1 hz2 hS => ?_)
    rw [hsz] at hp
    obtain ⟨hch, ⟨f2, hf2, hf3⟩, hk3, hz3⟩ := hp
    have hk3 : ∀ q : Nat, q < sz + 1 → M3 q = M2 q := hk3
    have hz3 : sz + 1 ≤ H3.size := by rw [hz1]; exact hz3
    have hga : M3 (z + 6 + 2 * n) = some (.inl (G.2.1 0, n * 60, .inl g)) := (hk3 _ (by omega)).trans hga
    have hfl : M3 (z + 5 + 2 * n) = some (.inl (G.2.1 3, 120, .inr (.inr (.inr (.inr (fun i => qs[i]?)))))) := (hk3 _ (by omega)).trans hfl
    have hx0 : M3 x = some (.inr (1, zoC n mb z st.fl.length (st.se + 1) st.lo st.go st.pa)) := (hk3 _ (by omega)).trans hx0
    have hq0 : M3 sz = some (.inr (0, [.int 0, .int 0, .int 0, .int 0, .long 0, .null])) := (hk3 _ (by omega)).trans hq0
    refine zr_I (As := [.int (nI st.se), .int (nI j), .int (nI k), .int (nI by0), .long (-1), .ref ch]) (rest := [.ref sz, .ref x]) (mc := 0) (ms := 0) ⟨hx, hb, hml, hown, hz⟩ (kM_init l G B M3 _ sz (nI st.se) (nI j) (nI k) (nI by0) (-1) ch _ _ _ _ _ _ hq0) (zt_I zm_281) rfl rfl rfl (hz _ zm_10) (hz _ zm_279) (hz _ zm_280) rfl (show _ ∧ _ ∧ _ = some 6 from by decide +kernel) ⟨Nat.le_of_ble_eq_true rfl, Nat.le_of_ble_eq_true rfl⟩ zE_blind (zE_at hE hS) hH hS hl.1 rfl (Nat.le_of_ble_eq_true rfl) dC_sendGathered_35 ⟨Nat.le_of_ble_eq_true rfl, by show 0 + 6 + pt.length + 0 ≤ 6 + pt.length; omega⟩ (fun M4 sz4 H4 L4 hp hH hz1 hz2 hS => ?_)
    have hM4 := (Prod.mk.inj hp).1
    have hz4 : sz + 1 ≤ H4.size := by omega
    have hga : M4 (z + 6 + 2 * n) = some (.inl (G.2.1 0, n * 60, .inl g)) := by rw [hM4, zw_un _ _ (by omega)]; exact hga
    have hfl : M4 (z + 5 + 2 * n) = some (.inl (G.2.1 3, 120, .inr (.inr (.inr (.inr (fun i => qs[i]?)))))) := by rw [hM4, zw_un _ _ (by omega)]; exact hfl
    have hx0 : M4 x = some (.inr (1, zoC n mb z st.fl.length (st.se + 1) st.lo st.go st.pa)) := by rw [hM4, zw_un _ _ (by omega)]; exact hx0
    have hq0 : M4 sz = some (.inr (0, zoM (nI st.se) (nI j) (nI k) (nI by0) (-1) ch)) := by rw [hM4]; exact zw_us _ _ _
    refine zr_Vv (As := [.ref sz]) (rest := []) (q := (RC, TC, 14)) (mc := 0) (ms := 0) ⟨hx, hb, hml, hown, hz⟩ (kC_put l G B M4 _ x n mb z st.fl.length (st.se + 1) st.lo st.go st.pa hn hx0 (fun i => qs[i]?) hfl hxz hlt sz _ hq0) (zt_V zm_308 zm_310 zs_11 zm_1 zm_311) rfl rfl rfl (show _ ∧ _ ∧ _ ∧ _ = some 1 from by decide +kernel) ⟨Nat.le_of_ble_eq_true rfl, Nat.le_of_ble_eq_true rfl⟩ zE_blind (zE_at hE hS) hH hK hx0 rfl rfl hS hl.1 rfl (Nat.le_of_ble_eq_true rfl) dC_sendGathered_38 ⟨Nat.le_of_ble_eq_true rfl, by show 0 + 6 + pt.length + 0 + 0 ≤ 6 + pt.length; omega⟩ (fun M5 sz5 H5 L5 hp hH hz1 hz2 hS => ?_)
    have hM5 := (Prod.mk.inj hp).1
    have hz5 : sz + 1 ≤ H5.size := by omega
    have hq0 : M5 sz = some (.inr (0, zoM (nI st.se) (nI j) (nI k) (nI by0) (-1) ch)) := by rw [hM5, zw_un _ _ (by omega), zw_un _ _ (by omega)]; exact hq0
    have hfl : M5 (z + 5 + 2 * n) = some (.inl (G.2.1 3, 120, .inr (.inr (.inr (.inr (va_up (fun i => qs[i]?) st.fl.length (some sz))))))) := by rw [hM5, zw_un _ _ (by omega)]; exact zw_us _ _ _
    have hx0 : M5 x = some (.inr (1, zoC n mb z (st.fl.length + 1) (st.se + 1) st.lo st.go st.pa)) := by rw [hM5]; exact zw_us _ _ _
    have hf2 : M5 ch = some (.inl (G.2.1 0, pt.length, .inl f2)) := by rw [hM5, zw_un _ _ (by omega), zw_un _ _ (by omega), hM4, zw_un _ _ (by omega)]; exact hf2
    have hk : ∀ a : Nat, a ≠ x → a ≠ z + 5 + 2 * n → a < sz → M5 a = M a := fun a h1 h2 h3 => by rw [hM5, zw_un _ _ h1, zw_un _ _ h2, hM4, zw_un _ _ (by omega), hk3 a (by omega), hM2, zw_un _ _ (by omega), hM1, zw_un _ _ h1]
    have hsnd : zsend st j k by0 none pt = zSt.mk st.dn st.lg st.wt (st.fl ++ [zMg.mk st.se j k by0 none pt]) (st.se + 1) st.lo st.go st.pa := if_pos hlt
    refine W.widen (k := 2) (n := 6 + pt.length) (by omega) (by omega) ?_
    exact W.vret hx hb hr (fun t ht hW => ⟨⟨(M5, H5.size), rfl, ⟨⟨qs ++ [sz], g, by rw [hsnd]; exact hR.put (mg := zMg.mk st.se j k by0 none pt) (q := sz) rfl rfl rfl rfl (by show M5 x = some (.inr (1, zoC n mb z (st.fl ++ [_]).length (st.se + 1) st.lo st.go st.pa)); rw [List.length_append]; exact hx0) hfl ⟨hL, ch, f2, by omega, hq0, hf2, fun i hi => (hf3 i hi).trans (hpt i hi)⟩ (fun a e h1 h2 h3 => (hk a h1 h2 (hlt0 a e h3)).trans h3)⟩, fun a h1 h2 h3 => hk a h1 (by omega) h3, by show sz ≤ H5.size; omega⟩, by rw [ht]; exact hH, by rw [ht]⟩, hS.F ht⟩) hS.2.2 dC_sendGathered_41

set_option maxHeartbeats 4000000 in
set_option maxRecDepth 100000 in
theorem kC_sendGathered_no (l : Launch) (G : zG) (B : Nat) (M : zw_M) (sz : Nat) (x z L n mb : Nat) (st : zSt) (qs : List Nat) (g : Nat → Int32) (hn : n ≤ 8) (hR : zCR G M x z L n mb st qs g) (j k by0 : Nat) (pt : List Nat) (hlt : st.fl.length = 120) : Met l yC_sendGathered (Cond.code yC_sendGathered bC_sendGathered 6 none :: zT) { frames := 2, cells := 2, slots := 6 + pt.length, locals := 70 } (zq G B M sz [.ref x, .int (nI j), .int (nI k), .int (nI by0), .int (nI pt.length)]) (va_Qv (fun (u : zw_M × Nat) => zCO G x z L n mb sz M (zsend st j k by0 none pt) u) (zr_o G.1 zCl B) (zw_A B)) (2) (6 + pt.length) (zw_A B) := by
  refine Met.ofW (cc := bC_sendGathered) (maxL := 6) (ret := none) (by decide) rfl ?_
  intro p e s m args below meth c s₁ B0 hml hv
  obtain ⟨rfl, hE, hH, hsz⟩ := hv
  have hx := B0.exec
  have hb := B0.bytes
  have hr := B0.returns
  have hlocks := B0.notSynchronized
  have hz : ∀ w ∈ zT, w.before _ s = true := fun w h => atoms_spec (ws := Cond.code yC_sendGathered bC_sendGathered 6 none :: zT) B0.pre w (List.mem_cons_of_mem _ h)
  have hown : s.vm.findClass RC = some m.cls := findClass_of_methodNamed B0.named
  have hK := hE.1
  have hl := lv_entry ([.ref x, .int (nI j), .int (nI k), .int (nI by0), .int (nI pt.length)]) (n := 6) (Nat.le_of_ble_eq_true rfl)
  rw [lg_entry_eq]
  generalize (lg_sl ([.ref x, .int (nI j), .int (nI k), .int (nI by0), .int (nI pt.length)]) ++ List.replicate (6 - (lg_sl ([.ref x, .int (nI j), .int (nI k), .int (nI by0), .int (nI pt.length)])).length) Slot.unset).toArray = ls at hl ⊢
  have hl : lv_has ls 6 [(0, .ref x), (1, .int (nI j)), (2, .int (nI k)), (3, .int (nI by0)), (4, .int (nI pt.length))] := hl
  have hS : va_S (zw_A B) s.heap s.heap [] := va_S.rf
  have hin : meth.name = "sendGathered" := (name_of_methodNamed B0.named B0.method).1
  have hx0 := hR.obj
  have hck := hR.ck
  have hfl := hR.fl
  have hxz := hR.xz
  have hzL := hR.zL
  refine lv_aload_n hx hb dC_sendGathered_0 rfl (lv_at hl 0 rfl) ?_
  refine va_get (D := G.1) (ci := 1) (v := .int (nI st.se)) (C := RC) (T := TC) (N := 14) hx hb hz iC hown hK (hH.one hx0) 0 rfl rfl 10 (by decide) (hz _ zm_41) (fun _ h9 => h9) rfl dC_sendGathered_1 ?_
  refine lv_istore (lv' := [(5, .int (nI st.se)), (0, .ref x), (1, .int (nI j)), (2, .int (nI k)), (3, .int (nI by0)), (4, .int (nI pt.length))]) hx hb dC_sendGathered_4 hl (by decide) rfl (fun ls hl => ?_)
  refine lv_aload_n hx hb dC_sendGathered_6 rfl (lv_at hl 1 rfl) ?_
  refine zr_Vi (As := []) (rest := []) (q := (RC, TC, 14)) (mc := 0) (ms := 0) ⟨hx, hb, hml, hown, hz⟩ (kC_count_no l G B M _ x n mb z st.fl.length st.se st.lo st.go st.pa hn hx0 hlt) (zt_V zm_272 zm_274 zs_10 zm_1 zm_275) rfl rfl rfl (show _ ∧ _ ∧ _ ∧ _ = some 0 from by decide +kernel) ⟨Nat.le_of_ble_eq_true rfl, Nat.le_of_ble_eq_true rfl⟩ zE_blind (zE_at hE hS) hH hK hx0 rfl rfl hS hl.1 rfl (Nat.le_of_ble_eq_true rfl) dC_sendGathered_7 ⟨Nat.le_of_ble_eq_true rfl, Nat.zero_le _⟩ (fun r1 M1 sz1 H1 L1 hp hH hz1 hz2 hS => ?_)
  obtain ⟨rfl, hp⟩ := hp
  have hM1 := (Prod.mk.inj hp).1
  have hsz : H1.size = sz := hz1.trans ((Prod.mk.inj hp).2.trans hsz)
  have hck : M1 (z + 1) = some (.inl (G.2.1 1, n, .inr (.inl (fun i => zck (st.lg i))))) := by rw [hM1, zw_un _ _ (by omega)]; exact hck
  have hfl : M1 (z + 5 + 2 * n) = some (.inl (G.2.1 3, 120, .inr (.inr (.inr (.inr (fun i => qs[i]?)))))) := by rw [hM1, zw_un _ _ (by omega)]; exact hfl
  have hx0 : M1 x = some (.inr (1, zoC n mb z st.fl.length (st.se + 1) (st.lo + 1) st.go st.pa)) := by rw [hM1]; exact zw_us _ _ _
  refine zc_eq0 (tgt := 41) hx hb dC_sendGathered_10 (by decide) (by omega) (fun c => ?_) (fun c => ?_)
  · have hk : ∀ a : Nat, a ≠ x → M1 a = M a := fun a h1 => by rw [hM1, zw_un _ _ h1]
    refine W.widen (k := 2) (n := 6 + pt.length) (by omega) (by omega) ?_
    exact W.vret hx hb hr (fun t ht hW => ⟨⟨(M1, sz), rfl, ⟨⟨qs, g, by unfold zsend; rw [if_neg (by omega)]; exact hR.cnt rfl rfl rfl rfl hx0 (fun a e h1 h3 => (hk a h1).trans h3)⟩, fun a h1 h2 h3 => hk a h1, Nat.le_refl _⟩, by rw [ht]; exact hH, by rw [ht]; exact hsz⟩, hS.F ht⟩) hS.2.2 dC_sendGathered_41
  · exact absurd rfl c

