/-! THE CLASS: lose, up, tick -/
theorem kC_sendClock (l : Launch) (G : zG) (B : Nat) (M : zw_M) (sz : Nat) (x z L n mb : Nat) (st : zSt) (qs : List Nat) (g : Nat → Int32) (hn : n ≤ 8) (hR : zCR G M x z L n mb st qs g) (hL : L < sz) (j k : Nat) (hj : j < n) (h120 : st.fl.length ≤ 120) : Met l yC_sendClock (Cond.code yC_sendClock bC_sendClock 4 none :: zT) { frames := 2, cells := 1, slots := 6, locals := 40 } (zq G B M sz [.ref x, .int (nI j), .int (nI k)]) (va_Qv (fun (u : zw_M × Nat) => zCO G x z L n mb sz M (zsend st j k (3 + n) (some (zck (st.lg j))) []) u) (zr_o G.1 zCl B) (zw_A B)) (1) (6) (zw_A B) := by
  by_cases h : st.fl.length < 120
  · exact kC_sendClock_yes l G B M sz x z L n mb st qs g hn hR hL j k hj h
  · exact kC_sendClock_no l G B M sz x z L n mb st qs g hn hR j k (by omega)
theorem kC_sendGathered (l : Launch) (G : zG) (B : Nat) (M : zw_M) (sz : Nat) (x z L n mb : Nat) (st : zSt) (qs : List Nat) (g : Nat → Int32) (hn : n ≤ 8) (hR : zCR G M x z L n mb st qs g) (hL : L < sz) (j k by0 : Nat) (pt : List Nat) (hptl : pt.length ≤ n * 60) (hpt : ∀ i, i < pt.length → g i = nI (pt.getD i 0)) (h120 : st.fl.length ≤ 120) : Met l yC_sendGathered (Cond.code yC_sendGathered bC_sendGathered 6 none :: zT) { frames := 2, cells := 2, slots := 6 + pt.length, locals := 70 } (zq G B M sz [.ref x, .int (nI j), .int (nI k), .int (nI by0), .int (nI pt.length)]) (va_Qv (fun (u : zw_M × Nat) => zCO G x z L n mb sz M (zsend st j k by0 none pt) u) (zr_o G.1 zCl B) (zw_A B)) (2) (6 + pt.length) (zw_A B) := by
  by_cases h : st.fl.length < 120
  · exact kC_sendGathered_yes l G B M sz x z L n mb st qs g hn hR hL j k by0 pt hptl hpt h
  · exact kC_sendGathered_no l G B M sz x z L n mb st qs g hn hR j k by0 pt (by omega)
set_option maxHeartbeats 4000000 in
set_option maxRecDepth 100000 in
theorem kC_lose_in (l : Launch) (G : zG) (B : Nat) (M : zw_M) (sz : Nat) (x z L n mb : Nat) (st : zSt) (qs : List Nat) (g : Nat → Int32) (hn : n ≤ 8) (hR : zCR G M x z L n mb st qs g) (h120 : st.fl.length ≤ 120) (j : Nat) (hj : j < st.fl.length) : Met l yC_lose (Cond.code yC_lose bC_lose 2 (some .boolean) :: zT) { frames := 1, cells := 0, slots := 0, locals := 22 } (zq G B M sz [.ref x, .int (nI j)]) (va_Qi (fun (r : Int32) (u : zw_M × Nat) => r = nI 1 ∧ zCO G x z L n mb sz M (zlost (zdrop st j)) u) (zr_o G.1 zCl B) (zw_A B)) (0) (0) (zw_A B) := by
  refine Met.ofW (cc := bC_lose) (maxL := 2) (ret := (some .boolean)) (by decide) rfl ?_
  intro p e s m args below meth c s₁ B0 hml hv
  obtain ⟨rfl, hE, hH, hsz⟩ := hv
  have hx := B0.exec
  have hb := B0.bytes
  have hr := B0.returns
  have hlocks := B0.notSynchronized
  have hz : ∀ w ∈ zT, w.before _ s = true := fun w h => atoms_spec (ws := Cond.code yC_lose bC_lose 2 (some .boolean) :: zT) B0.pre w (List.mem_cons_of_mem _ h)
  have hown : s.vm.findClass RC = some m.cls := findClass_of_methodNamed B0.named
  have hK := hE.1
  have hl := lv_entry ([.ref x, .int (nI j)]) (n := 2) (Nat.le_of_ble_eq_true rfl)
  rw [lg_entry_eq]
  generalize (lg_sl ([.ref x, .int (nI j)]) ++ List.replicate (2 - (lg_sl ([.ref x, .int (nI j)])).length) Slot.unset).toArray = ls at hl ⊢
  have hl : lv_has ls 2 [(0, .ref x), (1, .int (nI j))] := hl
  have hS : va_S (zw_A B) s.heap s.heap [] := va_S.rf
  have hin : meth.name = "lose" := (name_of_methodNamed B0.named B0.method).1
  obtain ⟨q, mg, hq, -, hmg⟩ := hR.at hj
  have hx0 := hR.obj
  have hfl := hR.fl
  have hxz := hR.xz
  have hzL := hR.zL
  refine lv_aload_n hx hb dC_lose_0 rfl (lv_at hl 0 rfl) ?_
  refine lv_iload_n hx hb dC_lose_1 rfl (lv_at hl 1 rfl) ?_
  refine zr_V (As := [.int (nI j)]) (rest := []) (q := (RC, TC, 14)) ⟨hx, hb, hml, hown, hz⟩ (kC_messageAt_in l G B M x n mb z st.fl.length st.se st.lo st.go st.pa hn hx0 (fun i => qs[i]?) hfl (by omega) j q hj hq) (zt_V zm_81 zm_83 zs_0 zm_1 zm_84) rfl rfl rfl (show _ ∧ _ ∧ _ ∧ _ = some 1 from by decide +kernel) ⟨Nat.le_of_ble_eq_true rfl, Nat.le_of_ble_eq_true rfl⟩ zE_blind (zE_at hE hS) hH hK hx0 rfl rfl hl.1 rfl (Nat.le_of_ble_eq_true rfl) dC_lose_2 ⟨Nat.le_of_ble_eq_true rfl, Nat.le_of_ble_eq_true rfl⟩ ?_
  refine lv_ifnonnull (tgt := 10) hx hb dC_lose_5 (by decide) ?_
  refine lv_aload_n hx hb dC_lose_10 rfl (lv_at hl 0 rfl) ?_
  refine lv_iload_n hx hb dC_lose_11 rfl (lv_at hl 1 rfl) ?_
  refine zr_Vv (As := [.int (nI j)]) (rest := []) (q := (RC, TC, 14)) (mc := 0) (ms := 0) ⟨hx, hb, hml, hown, hz⟩ (kC_takeOut l G B M _ x z L n mb st qs g hn hR (by omega) j hj) (zt_V zm_85 zm_87 zs_1 zm_1 zm_88) rfl rfl rfl (show _ ∧ _ ∧ _ ∧ _ = some 1 from by decide +kernel) ⟨Nat.le_of_ble_eq_true rfl, Nat.le_of_ble_eq_true rfl⟩ zE_blind (zE_at hE hS) hH hK hx0 rfl rfl hS hl.1 rfl (Nat.le_of_ble_eq_true rfl) dC_lose_12 ⟨Nat.le_of_ble_eq_true rfl, Nat.le_of_ble_eq_true rfl⟩ (fun M1 sz1 H1 L1 hp hH hz1 hz2 hS => ?_)
  rw [hsz] at hp
  obtain ⟨hR1, hk1, hz3⟩ := hp
  have hsz : H1.size = sz := hz1.trans hz3
  have hx0 := hR1.obj
  have hxz := hR1.xz
  have hzL := hR1.zL
  refine lv_aload_n hx hb dC_lose_15 rfl (lv_at hl 0 rfl) ?_
  refine lv_dup hx hb dC_lose_16 rfl ?_
  refine va_get (D := G.1) (ci := 1) (v := .int (nI ((zdrop st j).lo))) (C := RC) (T := TC) (N := 14) hx hb hz iC hown hK (hH.one hx0) 0 rfl rfl 11 (by decide) (hz _ zm_42) (fun _ h9 => h9) rfl dC_lose_17 ?_
  refine lv_iconst (v := nI 1) hx hb dC_lose_20 (by decide) ?_
  refine lv_iadd hx hb dC_lose_21 ?_
  refine zw_ti (nI_add _ _) ?_
  refine zw_put (D := G.1) (ci := 1) (v := .int (nI (((zdrop st j).lo) + 1))) (ty := .int) (C := RC) (T := TC) (N := 14) hx hb hz iC tC tC_ok nC hown hK hH hS hx0 rfl 11 (by decide) (hz _ zm_42) (fun _ h9 => h9) rfl (by decide +kernel) rfl rfl (Nat.le_of_ble_eq_true rfl) dC_lose_22 (fun H2 L2 hH hz1 hS => ?_)
  have hsz : H2.size = sz := hz1.trans hsz
  obtain ⟨M2, hM2⟩ : ∃ Mq, Mq = zw_u M1 x (.inr (1, zoC n mb z ((zdrop st j).fl.length) ((zdrop st j).se) (((zdrop st j).lo) + 1) ((zdrop st j).go) ((zdrop st j).pa))) := ⟨_, rfl⟩
  have hH : zw_H G.1 zCl B M2 H2 := by rw [hM2]; exact hH
  have hx0 : M2 x = some (.inr (1, zoC n mb z ((zdrop st j).fl.length) ((zdrop st j).se) (((zdrop st j).lo) + 1) ((zdrop st j).go) ((zdrop st j).pa))) := by rw [hM2]; exact zw_us _ _ _
  refine lv_iconst (v := nI 1) hx hb dC_lose_25 (by decide) ?_
  have hk : ∀ a : Nat, a ≠ x → M2 a = M1 a := fun a h1 => by rw [hM2, zw_un _ _ h1]
  exact W.zret (v := (nI 1)) (ty := .boolean) hx hb hr rfl (fun t ht hW => ⟨⟨(nI 1), (M2, sz), rfl, ⟨rfl, ⟨_, _, hR1.cnt (st' := zlost (zdrop st j)) rfl rfl rfl rfl hx0 (fun a e h1 h2 => (hk a h1).trans h2)⟩, fun a h1 h2 h3 => (hk a h1).trans (hk1 a h1 (by omega)), Nat.le_refl _⟩, by rw [ht]; exact hH, by rw [ht]; exact hsz⟩, hS.F ht⟩) hS.2.2 dC_lose_26

set_option maxHeartbeats 4000000 in
set_option maxRecDepth 100000 in
theorem kC_lose_out (l : Launch) (G : zG) (B : Nat) (M : zw_M) (sz : Nat) (x z L n mb : Nat) (st : zSt) (qs : List Nat) (g : Nat → Int32) (hn : n ≤ 8) (hR : zCR G M x z L n mb st qs g) (a : Int32) (ha : a < 0 ∨ nI st.fl.length ≤ a) : Met l yC_lose (Cond.code yC_lose bC_lose 2 (some .boolean) :: zT) { frames := 1, cells := 0, slots := 0, locals := 22 } (zq G B M sz [.ref x, .int a]) (va_Qi (fun (r : Int32) (u : zw_M × Nat) => r = nI 0 ∧ u = (M, sz)) (zr_o G.1 zCl B) (zw_A B)) (0) (0) (zw_A B) := by
  refine Met.ofW (cc := bC_lose) (maxL := 2) (ret := (some .boolean)) (by decide) rfl ?_
  intro p e s m args below meth c s₁ B0 hml hv
  obtain ⟨rfl, hE, hH, hsz⟩ := hv
  have hx := B0.exec
  have hb := B0.bytes
  have hr := B0.returns
  have hlocks := B0.notSynchronized
  have hz : ∀ w ∈ zT, w.before _ s = true := fun w h => atoms_spec (ws := Cond.code yC_lose bC_lose 2 (some .boolean) :: zT) B0.pre w (List.mem_cons_of_mem _ h)
  have hown : s.vm.findClass RC = some m.cls := findClass_of_methodNamed B0.named
  have hK := hE.1
  have hl := lv_entry ([.ref x, .int a]) (n := 2) (Nat.le_of_ble_eq_true rfl)
  rw [lg_entry_eq]
  generalize (lg_sl ([.ref x, .int a]) ++ List.replicate (2 - (lg_sl ([.ref x, .int a])).length) Slot.unset).toArray = ls at hl ⊢
  have hl : lv_has ls 2 [(0, .ref x), (1, .int a)] := hl
  have hS : va_S (zw_A B) s.heap s.heap [] := va_S.rf
  have hin : meth.name = "lose" := (name_of_methodNamed B0.named B0.method).1
  have hx0 := hR.obj
  have hxz := hR.xz
  have hzL := hR.zL
  refine lv_aload_n hx hb dC_lose_0 rfl (lv_at hl 0 rfl) ?_
  refine lv_iload_n hx hb dC_lose_1 rfl (lv_at hl 1 rfl) ?_
  refine zr_V (As := [.int a]) (rest := []) (q := (RC, TC, 14)) ⟨hx, hb, hml, hown, hz⟩ (kC_messageAt_out l G B M x n mb z st.fl.length st.se st.lo st.go st.pa hn hx0 a ha) (zt_V zm_81 zm_83 zs_0 zm_1 zm_84) rfl rfl rfl (show _ ∧ _ ∧ _ ∧ _ = some 1 from by decide +kernel) ⟨Nat.le_of_ble_eq_true rfl, Nat.le_of_ble_eq_true rfl⟩ zE_blind (zE_at hE hS) hH hK hx0 rfl rfl hl.1 rfl (Nat.le_of_ble_eq_true rfl) dC_lose_2 ⟨Nat.le_of_ble_eq_true rfl, Nat.le_of_ble_eq_true rfl⟩ ?_
  refine lv_ifnonnullN hx hb dC_lose_5 ?_
  refine lv_iconst (v := nI 0) hx hb dC_lose_8 (by decide) ?_
  exact W.zret (v := (nI 0)) (ty := .boolean) hx hb hr rfl (fun t ht hW => ⟨⟨(nI 0), (M, sz), rfl, ⟨rfl, rfl⟩, by rw [ht]; exact hH, by rw [ht]; exact hsz⟩, hS.F ht⟩) hS.2.2 dC_lose_9

theorem zbool (b : Bool) : b.toNat < 2 := by cases b <;> decide
theorem zbool_eq {a b : Bool} (h : a.toNat = b.toNat) : a = b := by cases a <;> cases b <;> first | rfl | cases h
set_option maxHeartbeats 4000000 in
set_option maxRecDepth 100000 in
theorem kC_up_yes (l : Launch) (G : zG) (B : Nat) (M : zw_M) (sz : Nat) (x z L n mb : Nat) (st : zSt) (qs : List Nat) (g : Nat → Int32) (hn : n ≤ 8) (hR : zCR G M x z L n mb st qs g) (j : Nat) (hj : j < n) (bo : Bool) (hd : st.dn j = bo) : Met l yC_up (Cond.code yC_up bC_up 3 (some .boolean) :: zT) { frames := 1, cells := 0, slots := 0, locals := 22 } (zq G B M sz [.ref x, .int (nI j), .int (nI bo.toNat)]) (va_Qi (fun (r : Int32) (u : zw_M × Nat) => r = nI 1 ∧ zCO G x z L n mb sz M (zup st j (!bo)) u) (zr_o G.1 zCl B) (zw_A B)) (0) (0) (zw_A B) := by
  refine Met.ofW (cc := bC_up) (maxL := 3) (ret := (some .boolean)) (by decide) rfl ?_
  intro p e s m args below meth c s₁ B0 hml hv
  obtain ⟨rfl, hE, hH, hsz⟩ := hv
  have hx := B0.exec
  have hb := B0.bytes
  have hr := B0.returns
  have hlocks := B0.notSynchronized
  have hz : ∀ w ∈ zT, w.before _ s = true := fun w h => atoms_spec (ws := Cond.code yC_up bC_up 3 (some .boolean) :: zT) B0.pre w (List.mem_cons_of_mem _ h)
  have hown : s.vm.findClass RC = some m.cls := findClass_of_methodNamed B0.named
  have hK := hE.1
  have hl := lv_entry ([.ref x, .int (nI j), .int (nI bo.toNat)]) (n := 3) (Nat.le_of_ble_eq_true rfl)
  rw [lg_entry_eq]
  generalize (lg_sl ([.ref x, .int (nI j), .int (nI bo.toNat)]) ++ List.replicate (3 - (lg_sl ([.ref x, .int (nI j), .int (nI bo.toNat)])).length) Slot.unset).toArray = ls at hl ⊢
  have hl : lv_has ls 3 [(0, .ref x), (1, .int (nI j)), (2, .int (nI bo.toNat))] := hl
  have hS : va_S (zw_A B) s.heap s.heap [] := va_S.rf
  have hin : meth.name = "up" := (name_of_methodNamed B0.named B0.method).1
  have hb1 := zbool (st.dn j)
  have hb2 := zbool bo
  have hx0 := hR.obj
  have hdn := hR.dn
  have hxz := hR.xz
  have hzL := hR.zL
  refine lv_aload_n hx hb dC_up_0 rfl (lv_at hl 0 rfl) ?_
  refine lv_iload_n hx hb dC_up_1 rfl (lv_at hl 1 rfl) ?_
  refine zr_V (As := [.int (nI j)]) (rest := []) (q := (RC, TC, 14)) ⟨hx, hb, hml, hown, hz⟩ (kC_isReplica_in l G B M x n mb z st.fl.length st.se st.lo st.go st.pa hn hx0 j hj) (zt_V zm_93 zm_95 zs_2 zm_1 zm_96) rfl rfl rfl (show _ ∧ _ ∧ _ ∧ _ = some 1 from by decide +kernel) ⟨Nat.le_of_ble_eq_true rfl, Nat.le_of_ble_eq_true rfl⟩ zE_blind (zE_at hE hS) hH hK hx0 rfl rfl hl.1 rfl (Nat.le_of_ble_eq_true rfl) dC_up_2 ⟨Nat.le_of_ble_eq_true rfl, Nat.le_of_ble_eq_true rfl⟩ ?_
  refine zc_eq0 (tgt := 18) hx hb dC_up_5 (by decide) (by omega) (fun c => ?_) (fun c => ?_)
  · exact absurd c (by decide)
  · refine lv_aload_n hx hb dC_up_8 rfl (lv_at hl 0 rfl) ?_
    refine va_get (D := G.1) (ci := 1) (v := .ref z) (C := RC) (T := TC) (N := 14) hx hb hz iC hown hK (hH.one hx0) 0 rfl rfl 2 (by decide) (hz _ zm_33) (fun _ h9 => h9) rfl dC_up_9 ?_
    refine lv_iload_n hx hb dC_up_12 rfl (lv_at hl 1 rfl) ?_
    refine zw_zald hx hb hK hH 2 hdn rfl (j) rfl (hj) (by omega) dC_up_13 ?_
    refine lv_iload_n hx hb dC_up_14 rfl (lv_at hl 2 rfl) ?_
    refine zc_eq (tgt := 20) hx hb dC_up_15 (by decide) (by omega) (by omega) (fun c2 => ?_) (fun c2 => ?_)
    · refine lv_aload_n hx hb dC_up_20 rfl (lv_at hl 0 rfl) ?_
      refine va_get (D := G.1) (ci := 1) (v := .ref z) (C := RC) (T := TC) (N := 14) hx hb hz iC hown hK (hH.one hx0) 0 rfl rfl 2 (by decide) (hz _ zm_33) (fun _ h9 => h9) rfl dC_up_21 ?_
      refine lv_iload_n hx hb dC_up_24 rfl (lv_at hl 1 rfl) ?_
      refine lv_iload_n hx hb dC_up_25 rfl (lv_at hl 2 rfl) ?_
      refine zc_ne0 (tgt := 33) hx hb dC_up_26 (by decide) (by omega) (fun c3 => ?_) (fun c3 => ?_)
      · refine lv_iconst (v := nI 0) hx hb dC_up_33 (by decide) ?_
        refine zw_zast hx hb hK hH hS 2 hdn rfl rfl (j) rfl (hj) (by omega) dC_up_34 (fun H1 L1 hH hz1 hS => ?_)
        have hsz : H1.size = sz := hz1.trans hsz
        obtain ⟨M1, hM1⟩ : ∃ Mq, Mq = zw_u M z (.inl (G.2.1 2, n, .inl (upd (fun i => nI (st.dn i).toNat) j (nI 0)))) := ⟨_, rfl⟩
        have hH : zw_H G.1 zCl B M1 H1 := by rw [hM1]; exact hH
        have hx0 : M1 x = some (.inr (1, zoC n mb z st.fl.length st.se st.lo st.go st.pa)) := by rw [hM1, zw_un _ _ (by omega)]; exact hx0
        have hdn : M1 z = some (.inl (G.2.1 2, n, .inl (upd (fun i => nI (st.dn i).toNat) j (nI 0)))) := by rw [hM1]; exact zw_us _ _ _
        refine lv_iconst (v := nI 1) hx hb dC_up_35 (by decide) ?_
        have hk : ∀ a : Nat, a ≠ z → M1 a = M a := fun a h1 => by rw [hM1, zw_un _ _ h1]
        exact W.zret (v := (nI 1)) (ty := .boolean) hx hb hr rfl (fun t ht hW => ⟨⟨(nI 1), (M1, sz), rfl, ⟨rfl, ⟨qs, g, hR.updn (r := j) (b := !bo) (fun a e h1 h2 => (hk a h1).trans h2) (by rw [show (!bo) = false from by cases bo <;> first | rfl | exact absurd c3 (by decide)]; exact hdn)⟩, fun a h1 h2 h3 => hk a (by omega), Nat.le_refl _⟩, by rw [ht]; exact hH, by rw [ht]; exact hsz⟩, hS.F ht⟩) hS.2.2 dC_up_36
      · refine lv_iconst (v := nI 1) hx hb dC_up_29 (by decide) ?_
        refine lv_goto (tgt := 34) hx hb dC_up_30 (by decide) ?_
        refine zw_zast hx hb hK hH hS 2 hdn rfl rfl (j) rfl (hj) (by omega) dC_up_34 (fun H1 L1 hH hz1 hS => ?_)
        have hsz : H1.size = sz := hz1.trans hsz
        obtain ⟨M1, hM1⟩ : ∃ Mq, Mq = zw_u M z (.inl (G.2.1 2, n, .inl (upd (fun i => nI (st.dn i).toNat) j (nI 1)))) := ⟨_, rfl⟩
        have hH : zw_H G.1 zCl B M1 H1 := by rw [hM1]; exact hH
        have hx0 : M1 x = some (.inr (1, zoC n mb z st.fl.length st.se st.lo st.go st.pa)) := by rw [hM1, zw_un _ _ (by omega)]; exact hx0
        have hdn : M1 z = some (.inl (G.2.1 2, n, .inl (upd (fun i => nI (st.dn i).toNat) j (nI 1)))) := by rw [hM1]; exact zw_us _ _ _
        refine lv_iconst (v := nI 1) hx hb dC_up_35 (by decide) ?_
        have hk : ∀ a : Nat, a ≠ z → M1 a = M a := fun a h1 => by rw [hM1, zw_un _ _ h1]
        exact W.zret (v := (nI 1)) (ty := .boolean) hx hb hr rfl (fun t ht hW => ⟨⟨(nI 1), (M1, sz), rfl, ⟨rfl, ⟨qs, g, hR.updn (r := j) (b := !bo) (fun a e h1 h2 => (hk a h1).trans h2) (by rw [show (!bo) = true from by cases bo <;> first | rfl | exact absurd c3 (by decide)]; exact hdn)⟩, fun a h1 h2 h3 => hk a (by omega), Nat.le_refl _⟩, by rw [ht]; exact hH, by rw [ht]; exact hsz⟩, hS.F ht⟩) hS.2.2 dC_up_36
    · exact absurd (congrArg Bool.toNat hd) c2

set_option maxHeartbeats 4000000 in
set_option maxRecDepth 100000 in
theorem kC_up_no (l : Launch) (G : zG) (B : Nat) (M : zw_M) (sz : Nat) (x z L n mb : Nat) (st : zSt) (qs : List Nat) (g : Nat → Int32) (hn : n ≤ 8) (hR : zCR G M x z L n mb st qs g) (j : Nat) (hj : j < n) (bo : Bool) (hd : st.dn j ≠ bo) : Met l yC_up (Cond.code yC_up bC_up 3 (some .boolean) :: zT) { frames := 1, cells := 0, slots := 0, locals := 22 } (zq G B M sz [.ref x, .int (nI j), .int (nI bo.toNat)]) (va_Qi (fun (r : Int32) (u : zw_M × Nat) => r = nI 0 ∧ u = (M, sz)) (zr_o G.1 zCl B) (zw_A B)) (0) (0) (zw_A B) := by
  refine Met.ofW (cc := bC_up) (maxL := 3) (ret := (some .boolean)) (by decide) rfl ?_
  intro p e s m args below meth c s₁ B0 hml hv
  obtain ⟨rfl, hE, hH, hsz⟩ := hv
  have hx := B0.exec
  have hb := B0.bytes
  have hr := B0.returns
  have hlocks := B0.notSynchronized
  have hz : ∀ w ∈ zT, w.before _ s = true := fun w h => atoms_spec (ws := Cond.code yC_up bC_up 3 (some .boolean) :: zT) B0.pre w (List.mem_cons_of_mem _ h)
  have hown : s.vm.findClass RC = some m.cls := findClass_of_methodNamed B0.named
  have hK := hE.1
  have hl := lv_entry ([.ref x, .int (nI j), .int (nI bo.toNat)]) (n := 3) (Nat.le_of_ble_eq_true rfl)
  rw [lg_entry_eq]
  generalize (lg_sl ([.ref x, .int (nI j), .int (nI bo.toNat)]) ++ List.replicate (3 - (lg_sl ([.ref x, .int (nI j), .int (nI bo.toNat)])).length) Slot.unset).toArray = ls at hl ⊢
  have hl : lv_has ls 3 [(0, .ref x), (1, .int (nI j)), (2, .int (nI bo.toNat))] := hl
  have hS : va_S (zw_A B) s.heap s.heap [] := va_S.rf
  have hin : meth.name = "up" := (name_of_methodNamed B0.named B0.method).1
  have hb1 := zbool (st.dn j)
  have hb2 := zbool bo
  have hx0 := hR.obj
  have hdn := hR.dn
  have hxz := hR.xz
  have hzL := hR.zL
  refine lv_aload_n hx hb dC_up_0 rfl (lv_at hl 0 rfl) ?_
  refine lv_iload_n hx hb dC_up_1 rfl (lv_at hl 1 rfl) ?_
  refine zr_V (As := [.int (nI j)]) (rest := []) (q := (RC, TC, 14)) ⟨hx, hb, hml, hown, hz⟩ (kC_isReplica_in l G B M x n mb z st.fl.length st.se st.lo st.go st.pa hn hx0 j hj) (zt_V zm_93 zm_95 zs_2 zm_1 zm_96) rfl rfl rfl (show _ ∧ _ ∧ _ ∧ _ = some 1 from by decide +kernel) ⟨Nat.le_of_ble_eq_true rfl, Nat.le_of_ble_eq_true rfl⟩ zE_blind (zE_at hE hS) hH hK hx0 rfl rfl hl.1 rfl (Nat.le_of_ble_eq_true rfl) dC_up_2 ⟨Nat.le_of_ble_eq_true rfl, Nat.le_of_ble_eq_true rfl⟩ ?_
  refine zc_eq0 (tgt := 18) hx hb dC_up_5 (by decide) (by omega) (fun c => ?_) (fun c => ?_)
  · exact absurd c (by decide)
  · refine lv_aload_n hx hb dC_up_8 rfl (lv_at hl 0 rfl) ?_
    refine va_get (D := G.1) (ci := 1) (v := .ref z) (C := RC) (T := TC) (N := 14) hx hb hz iC hown hK (hH.one hx0) 0 rfl rfl 2 (by decide) (hz _ zm_33) (fun _ h9 => h9) rfl dC_up_9 ?_
    refine lv_iload_n hx hb dC_up_12 rfl (lv_at hl 1 rfl) ?_
    refine zw_zald hx hb hK hH 2 hdn rfl (j) rfl (hj) (by omega) dC_up_13 ?_
    refine lv_iload_n hx hb dC_up_14 rfl (lv_at hl 2 rfl) ?_
    refine zc_eq (tgt := 20) hx hb dC_up_15 (by decide) (by omega) (by omega) (fun c2 => ?_) (fun c2 => ?_)
    · exact absurd (zbool_eq c2) hd
    · refine lv_iconst (v := nI 0) hx hb dC_up_18 (by decide) ?_
      exact W.zret (v := (nI 0)) (ty := .boolean) hx hb hr rfl (fun t ht hW => ⟨⟨(nI 0), (M, sz), rfl, ⟨rfl, rfl⟩, by rw [ht]; exact hH, by rw [ht]; exact hsz⟩, hS.F ht⟩) hS.2.2 dC_up_19

set_option maxHeartbeats 4000000 in
set_option maxRecDepth 100000 in
theorem kC_up_out (l : Launch) (G : zG) (B : Nat) (M : zw_M) (sz : Nat) (x z L n mb : Nat) (st : zSt) (qs : List Nat) (g : Nat → Int32) (hn : n ≤ 8) (hR : zCR G M x z L n mb st qs g) (a bo : Int32) (ha : a < 0 ∨ nI n ≤ a) : Met l yC_up (Cond.code yC_up bC_up 3 (some .boolean) :: zT) { frames := 1, cells := 0, slots := 0, locals := 22 } (zq G B M sz [.ref x, .int a, .int bo]) (va_Qi (fun (r : Int32) (u : zw_M × Nat) => r = nI 0 ∧ u = (M, sz)) (zr_o G.1 zCl B) (zw_A B)) (0) (0) (zw_A B) := by
  refine Met.ofW (cc := bC_up) (maxL := 3) (ret := (some .boolean)) (by decide) rfl ?_
  intro p e s m args below meth c s₁ B0 hml hv
  obtain ⟨rfl, hE, hH, hsz⟩ := hv
  have hx := B0.exec
  have hb := B0.bytes
  have hr := B0.returns
  have hlocks := B0.notSynchronized
  have hz : ∀ w ∈ zT, w.before _ s = true := fun w h => atoms_spec (ws := Cond.code yC_up bC_up 3 (some .boolean) :: zT) B0.pre w (List.mem_cons_of_mem _ h)
  have hown : s.vm.findClass RC = some m.cls := findClass_of_methodNamed B0.named
  have hK := hE.1
  have hl := lv_entry ([.ref x, .int a, .int bo]) (n := 3) (Nat.le_of_ble_eq_true rfl)
  rw [lg_entry_eq]
  generalize (lg_sl ([.ref x, .int a, .int bo]) ++ List.replicate (3 - (lg_sl ([.ref x, .int a, .int bo])).length) Slot.unset).toArray = ls at hl ⊢
  have hl : lv_has ls 3 [(0, .ref x), (1, .int a), (2, .int bo)] := hl
  have hS : va_S (zw_A B) s.heap s.heap [] := va_S.rf
  have hin : meth.name = "up" := (name_of_methodNamed B0.named B0.method).1
  have hx0 := hR.obj
  have hdn := hR.dn
  have hxz := hR.xz
  have hzL := hR.zL
  refine lv_aload_n hx hb dC_up_0 rfl (lv_at hl 0 rfl) ?_
  refine lv_iload_n hx hb dC_up_1 rfl (lv_at hl 1 rfl) ?_
  refine zr_V (As := [.int a]) (rest := []) (q := (RC, TC, 14)) ⟨hx, hb, hml, hown, hz⟩ (kC_isReplica_out l G B M x n mb z st.fl.length st.se st.lo st.go st.pa hn hx0 a ha) (zt_V zm_93 zm_95 zs_2 zm_1 zm_96) rfl rfl rfl (show _ ∧ _ ∧ _ ∧ _ = some 1 from by decide +kernel) ⟨Nat.le_of_ble_eq_true rfl, Nat.le_of_ble_eq_true rfl⟩ zE_blind (zE_at hE hS) hH hK hx0 rfl rfl hl.1 rfl (Nat.le_of_ble_eq_true rfl) dC_up_2 ⟨Nat.le_of_ble_eq_true rfl, Nat.le_of_ble_eq_true rfl⟩ ?_
  refine zc_eq0 (tgt := 18) hx hb dC_up_5 (by decide) (by omega) (fun c => ?_) (fun c => ?_)
  · refine lv_iconst (v := nI 0) hx hb dC_up_18 (by decide) ?_
    exact W.zret (v := (nI 0)) (ty := .boolean) hx hb hr rfl (fun t ht hW => ⟨⟨(nI 0), (M, sz), rfl, ⟨rfl, rfl⟩, by rw [ht]; exact hH, by rw [ht]; exact hsz⟩, hS.F ht⟩) hS.2.2 dC_up_19
  · exact absurd rfl c

theorem zOK.tk {n : Nat} {st : zSt} {ck : Int64} {r : Nat} (hck : ck ≠ -1) (h : zOK n st) (hr : r < n) : ∀ k, k ≤ n → zOK n (ztk n r ck st k)
  | 0, _ => h
  | k + 1, hk => by
    unfold ztk
    by_cases e : k = r
    · rw [if_pos e]; exact zOK.tk hck h hr k (by omega)
    · rw [if_neg e]; exact (zOK.tk hck h hr k (by omega)).send (fun num => ⟨hr, by show k < n; omega, hck, rfl, rfl⟩)
set_option maxHeartbeats 4000000 in
set_option maxRecDepth 100000 in
theorem kC_tick (l : Launch) (G : zG) (B : Nat) (M : zw_M) (sz : Nat) (x z L n mb : Nat) (st : zSt) (qs : List Nat) (g : Nat → Int32) (hn : n ≤ 8) (hR : zCR G M x z L n mb st qs g) (hL : L < sz) (hok : zOK n st) (hn1 : 1 ≤ n) (j : Nat) (hj : j < n) (hd : st.dn j = false) : Met l yC_tick (Cond.code yC_tick bC_tick 3 (some .int) :: zT) { frames := 3, cells := 8, slots := 48, locals := 70 } (zq G B M sz [.ref x, .int (nI j)]) (va_Qi (fun (r : Int32) (u : zw_M × Nat) => r = nI (n - 1) ∧ zCO G x z L n mb sz M (ztk n j (zck (st.lg j)) st n) u) (zr_o G.1 zCl B) (zw_A B)) (8) (48) (zw_A B) := by
  refine Met.ofW (cc := bC_tick) (maxL := 3) (ret := (some .int)) (by decide) rfl ?_
  intro p e s m args below meth c s₁ B0 hml hv
  obtain ⟨rfl, hE, hH, hsz⟩ := hv
  have hx := B0.exec
  have hb := B0.bytes
  have hr := B0.returns
  have hlocks := B0.notSynchronized
  have hz : ∀ w ∈ zT, w.before _ s = true := fun w h => atoms_spec (ws := Cond.code yC_tick bC_tick 3 (some .int) :: zT) B0.pre w (List.mem_cons_of_mem _ h)
  have hown : s.vm.findClass RC = some m.cls := findClass_of_methodNamed B0.named
  have hK := hE.1
  have hl := lv_entry ([.ref x, .int (nI j)]) (n := 3) (Nat.le_of_ble_eq_true rfl)
  rw [lg_entry_eq]
  generalize (lg_sl ([.ref x, .int (nI j)]) ++ List.replicate (3 - (lg_sl ([.ref x, .int (nI j)])).length) Slot.unset).toArray = ls at hl ⊢
  have hl : lv_has ls 3 [(0, .ref x), (1, .int (nI j))] := hl
  have hS : va_S (zw_A B) s.heap s.heap [] := va_S.rf
  have hin : meth.name = "tick" := (name_of_methodNamed B0.named B0.method).1
  have hb1 := zbool (st.dn j)
  have hx0 := hR.obj
  have hdn := hR.dn
  have hxz := hR.xz
  have hzL := hR.zL
  refine lv_aload_n hx hb dC_tick_0 rfl (lv_at hl 0 rfl) ?_
  refine lv_iload_n hx hb dC_tick_1 rfl (lv_at hl 1 rfl) ?_
  refine zr_V (As := [.int (nI j)]) (rest := []) (q := (RC, TC, 14)) ⟨hx, hb, hml, hown, hz⟩ (kC_isReplica_in l G B M x n mb z st.fl.length st.se st.lo st.go st.pa hn hx0 j hj) (zt_V zm_93 zm_95 zs_2 zm_1 zm_96) rfl rfl rfl (show _ ∧ _ ∧ _ ∧ _ = some 1 from by decide +kernel) ⟨Nat.le_of_ble_eq_true rfl, Nat.le_of_ble_eq_true rfl⟩ zE_blind (zE_at hE hS) hH hK hx0 rfl rfl hl.1 rfl (Nat.le_of_ble_eq_true rfl) dC_tick_2 ⟨Nat.le_of_ble_eq_true rfl, Nat.le_of_ble_eq_true rfl⟩ ?_
  refine zc_ne0 (tgt := 18) hx hb dC_tick_5 (by decide) (by omega) (fun b1 => ?_) (fun b1 => ?_)
  · refine lv_aload_n hx hb dC_tick_18 rfl (lv_at hl 0 rfl) ?_
    refine va_get (D := G.1) (ci := 1) (v := .ref z) (C := RC) (T := TC) (N := 14) hx hb hz iC hown hK (hH.one hx0) 0 rfl rfl 2 (by decide) (hz _ zm_33) (fun _ h9 => h9) rfl dC_tick_19 ?_
    refine lv_iload_n hx hb dC_tick_22 rfl (lv_at hl 1 rfl) ?_
    refine zw_zald hx hb hK hH 2 hdn rfl (j) rfl (hj) (by omega) dC_tick_23 ?_
    refine zc_eq0 (tgt := 37) hx hb dC_tick_24 (by decide) (by omega) (fun c2 => ?_) (fun c2 => ?_)
    · refine lv_iconst (v := nI 0) hx hb dC_tick_37 (by decide) ?_
      refine lv_istore_n (lv' := [(2, .int (nI 0)), (0, .ref x), (1, .int (nI j))]) hx hb dC_tick_38 rfl hl (by decide) rfl (fun ls hl => ?_)
      refine zl_upC (Wg := fun ls H locs ce sl => W p l e _ s m _ below meth c H locs ce sl _ (F0 m 39 ls [])) (fun i ls H locs ce sl => lv_has ls 3 [(0, .ref x), (1, .int (nI j)), (2, .int (nI i))] ∧ (i = ce ∧ 6 * i = sl) ∧ ∃ Mq : zw_M, zw_H G.1 zCl B Mq H ∧ va_S (zw_A B) s.heap H locs ∧ zCO G x z L n mb sz M (ztk n j (zck (st.lg j)) st i) (Mq, H.size)) n ?_ (i := 0) (by omega) ⟨lv_sub hl [1, 2, 0] rfl, ⟨rfl, rfl⟩, M, hH, hS, ⟨⟨qs, g, hR⟩, zfr.rf, by show sz ≤ s.heap.size; omega⟩⟩
      intro i hi ls Hi Li ce sl ⟨hl, ⟨hce, hsl⟩, Mi, hH, hS, hI⟩ ih
      subst hce
      subst hsl
      have hl : lv_has ls 3 [(0, .ref x), (1, .int (nI j)), (2, .int (nI i))] := hl
      obtain ⟨⟨qs1, g1, hR1⟩, hfr, hszi⟩ := hI
      have hok := zOK.tk (zck_ne hok hj) hok hj i hi
      have hx0 := hR1.obj
      have hxz := hR1.xz
      have hzL := hR1.zL
      refine lv_iload_n hx hb dC_tick_39 rfl (lv_at hl 2 rfl) ?_
      refine lv_aload_n hx hb dC_tick_40 rfl (lv_at hl 0 rfl) ?_
      refine va_get (D := G.1) (ci := 1) (v := .int (nI n)) (C := RC) (T := TC) (N := 14) hx hb hz iC hown hK (hH.one hx0) 0 rfl rfl 0 (by decide) (hz _ zm_31) (fun _ h9 => h9) rfl dC_tick_41 ?_
      refine zc_ge (tgt := 64) hx hb dC_tick_44 (by decide) (by omega) (by omega) (fun c => ?_) (fun c => ?_)
      · have e1 : n = i := by omega
        subst e1
        refine lv_aload_n hx hb dC_tick_64 rfl (lv_at hl 0 rfl) ?_
        refine va_get (D := G.1) (ci := 1) (v := .int (nI n)) (C := RC) (T := TC) (N := 14) hx hb hz iC hown hK (hH.one hx0) 0 rfl rfl 0 (by decide) (hz _ zm_31) (fun _ h9 => h9) rfl dC_tick_65 ?_
        refine lv_iconst (v := nI 1) hx hb dC_tick_68 (by decide) ?_
        refine lv_isub hx hb dC_tick_69 ?_
        refine zw_ti (pk_sub (by omega)) ?_
        refine W.widen (k := 8) (n := 48) (by omega) (by omega) ?_
        exact W.iret (v := (nI (n - 1))) hx hb hr (fun t ht hW => ⟨⟨(nI (n - 1)), (Mi, Hi.size), rfl, ⟨rfl, ⟨qs1, g1, hR1⟩, hfr, hszi⟩, by rw [ht]; exact hH, by rw [ht]⟩, hS.F ht⟩) hS.2.2 dC_tick_70
      · refine lv_iload_n hx hb dC_tick_47 rfl (lv_at hl 2 rfl) ?_
        refine lv_iload_n hx hb dC_tick_48 rfl (lv_at hl 1 rfl) ?_
        refine zc_eq (tgt := 58) hx hb dC_tick_49 (by decide) (by omega) (by omega) (fun c2 => ?_) (fun c2 => ?_)
        · refine lv_iinc (v := (nI (i + 1))) (lv' := [(2, .int (nI (i + 1))), (0, .ref x), (1, .int (nI j))]) hx hb dC_tick_58 hl (k := 2) rfl (nI_add _ _) (by decide) rfl (fun ls hl => ?_)
          refine lv_goto (tgt := 39) hx hb dC_tick_61 (by decide) ?_
          refine W.widen (k := (i + 1)) (n := 6 * (i + 1)) (by omega) (by omega) ?_
          exact ih c ls Hi _ _ _ ⟨lv_sub hl [1, 2, 0] rfl, ⟨rfl, rfl⟩, Mi, hH, hS, ⟨⟨qs1, g1, by unfold ztk; rw [if_pos c2]; exact hR1⟩, hfr, hszi⟩⟩
        · refine lv_aload_n hx hb dC_tick_52 rfl (lv_at hl 0 rfl) ?_
          refine lv_iload_n hx hb dC_tick_53 rfl (lv_at hl 1 rfl) ?_
          refine lv_iload_n hx hb dC_tick_54 rfl (lv_at hl 2 rfl) ?_
          refine zr_Vv (As := [.int (nI j), .int (nI i)]) (rest := []) (q := (RC, TC, 14)) (mc := 1) (ms := 6) ⟨hx, hb, hml, hown, hz⟩ (kC_sendClock l G B Mi _ x z L n mb (ztk n j (zck (st.lg j)) st i) qs1 g1 hn hR1 (by omega) j i hj hok.fl) (zt_V zm_268 zm_270 zs_9 zm_1 zm_271) rfl rfl rfl (show _ ∧ _ ∧ _ ∧ _ = some 2 from by decide +kernel) ⟨Nat.le_of_ble_eq_true rfl, Nat.le_of_ble_eq_true rfl⟩ zE_blind (zE_at hE hS) hH hK hx0 rfl rfl hS hl.1 rfl (Nat.le_of_ble_eq_true rfl) dC_tick_55 ⟨by show i + 1 ≤ 8; omega, by show 6 * i + 6 ≤ 48; omega⟩ (fun M1 sz1 H1 L1 hp hH hz1 hz2 hS => ?_)
          obtain ⟨⟨qs2, g2, hR2⟩, hfr2, hz3⟩ := hp
          rw [ztk_lg] at hR2
          refine lv_iinc (v := (nI (i + 1))) (lv' := [(2, .int (nI (i + 1))), (0, .ref x), (1, .int (nI j))]) hx hb dC_tick_58 hl (k := 2) rfl (nI_add _ _) (by decide) rfl (fun ls hl => ?_)
          refine lv_goto (tgt := 39) hx hb dC_tick_61 (by decide) ?_
          refine W.widen (k := (i + 1)) (n := 6 * (i + 1)) (by omega) (by omega) ?_
          exact ih c ls H1 _ _ _ ⟨lv_sub hl [1, 2, 0] rfl, ⟨rfl, rfl⟩, M1, hH, hS, ⟨⟨qs2, g2, by unfold ztk; rw [if_neg c2]; exact hR2⟩, hfr.tr hfr2 hszi, Nat.le_trans hszi hz2⟩⟩
    · exact absurd (by rw [hd]; rfl) c2
  · exact absurd b1 (by decide)

