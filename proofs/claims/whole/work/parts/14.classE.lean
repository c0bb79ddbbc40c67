/-! THE CLASS: messages are sent -/
theorem zM_def : ∀ j, j < 6 → defaultValue (tM j) = vp_V [.int 0, .int 0, .int 0, .int 0, .long 0, .null] j := fun j hj => by rcases (show j = 0 ∨ j = 1 ∨ j = 2 ∨ j = 3 ∨ j = 4 ∨ j = 5 by omega) with rfl | rfl | rfl | rfl | rfl | rfl <;> rfl
set_option maxHeartbeats 4000000 in
set_option maxRecDepth 100000 in
theorem kC_sendClock_yes (l : Launch) (G : zG) (B : Nat) (M : zw_M) (sz : Nat) (x z L n mb : Nat) (st : zSt) (qs : List Nat) (g : Nat → Int32) (hn : n ≤ 8) (hR : zCR G M x z L n mb st qs g) (hL : L < sz) (j k : Nat) (hj : j < n) (hlt : st.fl.length < 120) : Met l yC_sendClock (Cond.code yC_sendClock bC_sendClock 4 none :: zT) { frames := 2, cells := 1, slots := 6, locals := 40 } (zq G B M sz [.ref x, .int (nI j), .int (nI k)]) (va_Qv (fun (u : zw_M × Nat) => zCO G x z L n mb sz M (zsend st j k (3 + n) (some (zck (st.lg j))) []) u) (zr_o G.1 zCl B) (zw_A B)) (1) (6) (zw_A B) := by
  refine Met.ofW (cc := bC_sendClock) (maxL := 4) (ret := none) (by decide) rfl ?_
  intro p e s m args below meth c s₁ B0 hml hv
  obtain ⟨rfl, hE, hH, hsz⟩ := hv
  have hx := B0.exec
  have hb := B0.bytes
  have hr := B0.returns
  have hlocks := B0.notSynchronized
  have hz : ∀ w ∈ zT, w.before _ s = true := fun w h => atoms_spec (ws := Cond.code yC_sendClock bC_sendClock 4 none :: zT) B0.pre w (List.mem_cons_of_mem _ h)
  have hown : s.vm.findClass RC = some m.cls := findClass_of_methodNamed B0.named
  have hK := hE.1
  have hl := lv_entry ([.ref x, .int (nI j), .int (nI k)]) (n := 4) (Nat.le_of_ble_eq_true rfl)
  rw [lg_entry_eq]
  generalize (lg_sl ([.ref x, .int (nI j), .int (nI k)]) ++ List.replicate (4 - (lg_sl ([.ref x, .int (nI j), .int (nI k)])).length) Slot.unset).toArray = ls at hl ⊢
  have hl : lv_has ls 4 [(0, .ref x), (1, .int (nI j)), (2, .int (nI k))] := hl
  have hS : va_S (zw_A B) s.heap s.heap [] := va_S.rf
  have hin : meth.name = "sendClock" := (name_of_methodNamed B0.named B0.method).1
  have hlt0 : ∀ (a : Nat) (e : va_E), M a = some e → a < sz := fun a e h => by rw [← hsz]; exact hH.lt h
  have hx0 := hR.obj
  have hck := hR.ck
  have hfl := hR.fl
  have hxz := hR.xz
  have hzL := hR.zL
  refine lv_aload_n hx hb dC_sendClock_0 rfl (lv_at hl 0 rfl) ?_
  refine va_get (D := G.1) (ci := 1) (v := .int (nI st.se)) (C := RC) (T := TC) (N := 14) hx hb hz iC hown hK (hH.one hx0) 0 rfl rfl 10 (by decide) (hz _ zm_41) (fun _ h9 => h9) rfl dC_sendClock_1 ?_
  refine lv_istore_n (lv' := [(3, .int (nI st.se)), (0, .ref x), (1, .int (nI j)), (2, .int (nI k))]) hx hb dC_sendClock_4 rfl hl (by decide) rfl (fun ls hl => ?_)
  refine lv_aload_n hx hb dC_sendClock_5 rfl (lv_at hl 1 rfl) ?_
  refine zr_Vi (As := []) (rest := []) (q := (RC, TC, 14)) (mc := 0) (ms := 0) ⟨hx, hb, hml, hown, hz⟩ (kC_count_yes l G B M _ x n mb z st.fl.length st.se st.lo st.go st.pa hn hx0 hlt) (zt_V zm_272 zm_274 zs_10 zm_1 zm_275) rfl rfl rfl (show _ ∧ _ ∧ _ ∧ _ = some 0 from by decide +kernel) ⟨Nat.le_of_ble_eq_true rfl, Nat.le_of_ble_eq_true rfl⟩ zE_blind (zE_at hE hS) hH hK hx0 rfl rfl hS hl.1 rfl (Nat.le_of_ble_eq_true rfl) dC_sendClock_6 ⟨Nat.le_of_ble_eq_true rfl, Nat.le_of_ble_eq_true rfl⟩ (fun r1 M1 sz1 H1 L1 hp hH hz1 hz2 hS => ?_)
  obtain ⟨rfl, hp⟩ := hp
  have hM1 := (Prod.mk.inj hp).1
  have hsz : H1.size = sz := hz1.trans ((Prod.mk.inj hp).2.trans hsz)
  have hck : M1 (z + 1) = some (.inl (G.2.1 1, n, .inr (.inl (fun i => zck (st.lg i))))) := by rw [hM1, zw_un _ _ (by omega)]; exact hck
  have hfl : M1 (z + 5 + 2 * n) = some (.inl (G.2.1 3, 120, .inr (.inr (.inr (.inr (fun i => qs[i]?)))))) := by rw [hM1, zw_un _ _ (by omega)]; exact hfl
  have hx0 : M1 x = some (.inr (1, zoC n mb z st.fl.length (st.se + 1) st.lo st.go st.pa)) := by rw [hM1]; exact zw_us _ _ _
  refine zc_eq0 (tgt := 41) hx hb dC_sendClock_9 (by decide) (by omega) (fun c => ?_) (fun c => ?_)
  · exact absurd c (by decide)
  · refine lv_aload_n hx hb dC_sendClock_12 rfl (lv_at hl 1 rfl) ?_
    refine zw_new (D := G.1) (ci := 0) (fs := [.int 0, .int 0, .int 0, .int 0, .long 0, .null]) (C := RM) (T := TM) (N := 6) hx hb hz iM tM tM_ok hown (hz _ zm_29) (hz _ zm_276) (hz _ zm_10) hK hH hS (Nat.le_trans hE.2.1 hS.1) rfl zM_def (Nat.le_of_ble_eq_true rfl) (Nat.le_of_ble_eq_true rfl) dC_sendClock_13 (fun H2 hH hz1 hS => ?_)
    rw [hsz] at hH hz1 ⊢
    have hsz : H2.size = sz + 1 := hz1
    obtain ⟨M2, hM2⟩ : ∃ Mq, Mq = zw_u M1 sz (.inr (0, [.int 0, .int 0, .int 0, .int 0, .long 0, .null])) := ⟨_, rfl⟩
    have hH : zw_H G.1 zCl B M2 H2 := by rw [hM2]; exact hH
    have hck : M2 (z + 1) = some (.inl (G.2.1 1, n, .inr (.inl (fun i => zck (st.lg i))))) := by rw [hM2, zw_un _ _ (by omega)]; exact hck
    have hfl : M2 (z + 5 + 2 * n) = some (.inl (G.2.1 3, 120, .inr (.inr (.inr (.inr (fun i => qs[i]?)))))) := by rw [hM2, zw_un _ _ (by omega)]; exact hfl
    have hx0 : M2 x = some (.inr (1, zoC n mb z st.fl.length (st.se + 1) st.lo st.go st.pa)) := by rw [hM2, zw_un _ _ (by omega)]; exact hx0
    have hq0 : M2 sz = some (.inr (0, [.int 0, .int 0, .int 0, .int 0, .long 0, .null])) := by rw [hM2]; exact zw_us _ _ _
    refine lv_dup hx hb dC_sendClock_16 rfl ?_
    refine lv_iload_n hx hb dC_sendClock_17 rfl (lv_at hl 0 rfl) ?_
    refine lv_iload_n hx hb dC_sendClock_18 rfl (lv_at hl 2 rfl) ?_
    refine lv_iload_n hx hb dC_sendClock_19 rfl (lv_at hl 3 rfl) ?_
    refine lv_iconst (v := nI 3) hx hb dC_sendClock_20 (by decide) ?_
    refine lv_aload_n hx hb dC_sendClock_21 rfl (lv_at hl 1 rfl) ?_
    refine va_get (D := G.1) (ci := 1) (v := .int (nI n)) (C := RC) (T := TC) (N := 14) hx hb hz iC hown hK (hH.one hx0) 0 rfl rfl 0 (by decide) (hz _ zm_31) (fun _ h9 => h9) rfl dC_sendClock_22 ?_
    refine lv_iadd hx hb dC_sendClock_25 ?_
    refine zw_ti (nI_add _ _) ?_
    refine lv_aload_n hx hb dC_sendClock_26 rfl (lv_at hl 1 rfl) ?_
    refine va_get (D := G.1) (ci := 1) (v := .ref (z + 1)) (C := RC) (T := TC) (N := 14) hx hb hz iC hown hK (hH.one hx0) 0 rfl rfl 3 (by decide) (hz _ zm_34) (fun _ h9 => h9) rfl dC_sendClock_27 ?_
    refine lv_iload_n hx hb dC_sendClock_30 rfl (lv_at hl 2 rfl) ?_
    refine zw_lald hx hb hK hH 1 hck rfl (j) rfl (hj) (by omega) dC_sendClock_31 ?_
    refine va_gets hx hb hE.2.2.1 hS hown (hz _ zm_277) (fun _ h9 => h9) dC_sendClock_32 ?_
    refine zr_I (As := [.int (nI st.se), .int (nI j), .int (nI k), .int (nI (3 + n)), .long (zck (st.lg j)), .ref G.2.2]) (rest := [.ref sz, .ref x]) (mc := 0) (ms := 0) ⟨hx, hb, hml, hown, hz⟩ (kM_init l G B M2 _ sz (nI st.se) (nI j) (nI k) (nI (3 + n)) (zck (st.lg j)) G.2.2 _ _ _ _ _ _ hq0) (zt_I zm_281) rfl rfl rfl (hz _ zm_10) (hz _ zm_279) (hz _ zm_280) rfl (show _ ∧ _ ∧ _ = some 6 from by decide +kernel) ⟨Nat.le_of_ble_eq_true rfl, Nat.le_of_ble_eq_true rfl⟩ zE_blind (zE_at hE hS) hH hS hl.1 rfl (Nat.le_of_ble_eq_true rfl) dC_sendClock_35 ⟨Nat.le_of_ble_eq_true rfl, Nat.le_of_ble_eq_true rfl⟩ (fun M3 sz3 H3 L3 hp hH hz1 hz2 hS => ?_)
    have hM3 := (Prod.mk.inj hp).1
    have hsz : H3.size = sz + 1 := hz1.trans ((Prod.mk.inj hp).2.trans hsz)
    have hck : M3 (z + 1) = some (.inl (G.2.1 1, n, .inr (.inl (fun i => zck (st.lg i))))) := by rw [hM3, zw_un _ _ (by omega)]; exact hck
    have hfl : M3 (z + 5 + 2 * n) = some (.inl (G.2.1 3, 120, .inr (.inr (.inr (.inr (fun i => qs[i]?)))))) := by rw [hM3, zw_un _ _ (by omega)]; exact hfl
    have hx0 : M3 x = some (.inr (1, zoC n mb z st.fl.length (st.se + 1) st.lo st.go st.pa)) := by rw [hM3, zw_un _ _ (by omega)]; exact hx0
    have hq0 : M3 sz = some (.inr (0, zoM (nI st.se) (nI j) (nI k) (nI (3 + n)) (zck (st.lg j)) G.2.2)) := by rw [hM3]; exact zw_us _ _ _
    refine zr_Vv (As := [.ref sz]) (rest := []) (q := (RC, TC, 14)) (mc := 0) (ms := 0) ⟨hx, hb, hml, hown, hz⟩ (kC_put l G B M3 _ x n mb z st.fl.length (st.se + 1) st.lo st.go st.pa hn hx0 (fun i => qs[i]?) hfl hxz hlt sz _ hq0) (zt_V zm_308 zm_310 zs_11 zm_1 zm_311) rfl rfl rfl (show _ ∧ _ ∧ _ ∧ _ = some 1 from by decide +kernel) ⟨Nat.le_of_ble_eq_true rfl, Nat.le_of_ble_eq_true rfl⟩ zE_blind (zE_at hE hS) hH hK hx0 rfl rfl hS hl.1 rfl (Nat.le_of_ble_eq_true rfl) dC_sendClock_38 ⟨Nat.le_of_ble_eq_true rfl, Nat.le_of_ble_eq_true rfl⟩ (fun M4 sz4 H4 L4 hp hH hz1 hz2 hS => ?_)
    have hM4 := (Prod.mk.inj hp).1
    have hsz : H4.size = sz + 1 := hz1.trans ((Prod.mk.inj hp).2.trans hsz)
    have hck : M4 (z + 1) = some (.inl (G.2.1 1, n, .inr (.inl (fun i => zck (st.lg i))))) := by rw [hM4, zw_un _ _ (by omega), zw_un _ _ (by omega)]; exact hck
    have hq0 : M4 sz = some (.inr (0, zoM (nI st.se) (nI j) (nI k) (nI (3 + n)) (zck (st.lg j)) G.2.2)) := by rw [hM4, zw_un _ _ (by omega), zw_un _ _ (by omega)]; exact hq0
    have hfl : M4 (z + 5 + 2 * n) = some (.inl (G.2.1 3, 120, .inr (.inr (.inr (.inr (va_up (fun i => qs[i]?) st.fl.length (some sz))))))) := by rw [hM4, zw_un _ _ (by omega)]; exact zw_us _ _ _
    have hx0 : M4 x = some (.inr (1, zoC n mb z (st.fl.length + 1) (st.se + 1) st.lo st.go st.pa)) := by rw [hM4]; exact zw_us _ _ _
    have hk : ∀ a : Nat, a ≠ x → a ≠ z + 5 + 2 * n → a ≠ sz → M4 a = M a := fun a h1 h2 h3 => by rw [hM4, zw_un _ _ h1, zw_un _ _ h2, hM3, zw_un _ _ h3, hM2, zw_un _ _ h3, hM1, zw_un _ _ h1]
    have hsnd : zsend st j k (3 + n) (some (zck (st.lg j))) [] = zSt.mk st.dn st.lg st.wt (st.fl ++ [zMg.mk st.se j k (3 + n) (some (zck (st.lg j))) []]) (st.se + 1) st.lo st.go st.pa := if_pos hlt
    refine W.widen (k := 1) (n := 6) (by omega) (by omega) ?_
    exact W.vret hx hb hr (fun t ht hW => ⟨⟨(M4, (sz + 1)), rfl, ⟨⟨qs ++ [sz], g, by rw [hsnd]; exact hR.put (mg := zMg.mk st.se j k (3 + n) (some (zck (st.lg j))) []) (q := sz) rfl rfl rfl rfl (by show M4 x = some (.inr (1, zoC n mb z (st.fl ++ [_]).length (st.se + 1) st.lo st.go st.pa)); rw [List.length_append]; exact hx0) hfl ⟨hL, hq0⟩ (fun a e h1 h2 h3 => (hk a h1 h2 (Nat.ne_of_lt (hlt0 a e h3))).trans h3)⟩, fun a h1 h2 h3 => hk a h1 (by omega) (by omega), by show sz ≤ sz + 1; omega⟩, by rw [ht]; exact hH, by rw [ht]; exact hsz⟩, hS.F ht⟩) hS.2.2 dC_sendClock_41

set_option maxHeartbeats 4000000 in
set_option maxRecDepth 100000 in
theorem kC_sendClock_no (l : Launch) (G : zG) (B : Nat) (M : zw_M) (sz : Nat) (x z L n mb : Nat) (st : zSt) (qs : List Nat) (g : Nat → Int32) (hn : n ≤ 8) (hR : zCR G M x z L n mb st qs g) (j k : Nat) (hlt : st.fl.length = 120) : Met l yC_sendClock (Cond.code yC_sendClock bC_sendClock 4 none :: zT) { frames := 2, cells := 1, slots := 6, locals := 40 } (zq G B M sz [.ref x, .int (nI j), .int (nI k)]) (va_Qv (fun (u : zw_M × Nat) => zCO G x z L n mb sz M (zsend st j k (3 + n) (some (zck (st.lg j))) []) u) (zr_o G.1 zCl B) (zw_A B)) (1) (6) (zw_A B) := by
  refine Met.ofW (cc := bC_sendClock) (maxL := 4) (ret := none) (by decide) rfl ?_
  intro p e s m args below meth c s₁ B0 hml hv
  obtain ⟨rfl, hE, hH, hsz⟩ := hv
  have hx := B0.exec
  have hb := B0.bytes
  have hr := B0.returns
  have hlocks := B0.notSynchronized
  have hz : ∀ w ∈ zT, w.before _ s = true := fun w h => atoms_spec (ws := Cond.code yC_sendClock bC_sendClock 4 none :: zT) B0.pre w (List.mem_cons_of_mem _ h)
  have hown : s.vm.findClass RC = some m.cls := findClass_of_methodNamed B0.named
  have hK := hE.1
  have hl := lv_entry ([.ref x, .int (nI j), .int (nI k)]) (n := 4) (Nat.le_of_ble_eq_true rfl)
  rw [lg_entry_eq]
  generalize (lg_sl ([.ref x, .int (nI j), .int (nI k)]) ++ List.replicate (4 - (lg_sl ([.ref x, .int (nI j), .int (nI k)])).length) Slot.unset).toArray = ls at hl ⊢
  have hl : lv_has ls 4 [(0, .ref x), (1, .int (nI j)), (2, .int (nI k))] := hl
  have hS : va_S (zw_A B) s.heap s.heap [] := va_S.rf
  have hin : meth.name = "sendClock" := (name_of_methodNamed B0.named B0.method).1
  have hx0 := hR.obj
  have hck := hR.ck
  have hfl := hR.fl
  have hxz := hR.xz
  have hzL := hR.zL
  refine lv_aload_n hx hb dC_sendClock_0 rfl (lv_at hl 0 rfl) ?_
  refine va_get (D := G.1) (ci := 1) (v := .int (nI st.se)) (C := RC) (T := TC) (N := 14) hx hb hz iC hown hK (hH.one hx0) 0 rfl rfl 10 (by decide) (hz _ zm_41) (fun _ h9 => h9) rfl dC_sendClock_1 ?_
  refine lv_istore_n (lv' := [(3, .int (nI st.se)), (0, .ref x), (1, .int (nI j)), (2, .int (nI k))]) hx hb dC_sendClock_4 rfl hl (by decide) rfl (fun ls hl => ?_)
  refine lv_aload_n hx hb dC_sendClock_5 rfl (lv_at hl 1 rfl) ?_
  refine zr_Vi (As := []) (rest := []) (q := (RC, TC, 14)) (mc := 0) (ms := 0) ⟨hx, hb, hml, hown, hz⟩ (kC_count_no l G B M _ x n mb z st.fl.length st.se st.lo st.go st.pa hn hx0 hlt) (zt_V zm_272 zm_274 zs_10 zm_1 zm_275) rfl rfl rfl (show _ ∧ _ ∧ _ ∧ _ = some 0 from by decide +kernel) ⟨Nat.le_of_ble_eq_true rfl, Nat.le_of_ble_eq_true rfl⟩ zE_blind (zE_at hE hS) hH hK hx0 rfl rfl hS hl.1 rfl (Nat.le_of_ble_eq_true rfl) dC_sendClock_6 ⟨Nat.le_of_ble_eq_true rfl, Nat.le_of_ble_eq_true rfl⟩ (fun r1 M1 sz1 H1 L1 hp hH hz1 hz2 hS => ?_)
  obtain ⟨rfl, hp⟩ := hp
  have hM1 := (Prod.mk.inj hp).1
  have hsz : H1.size = sz := hz1.trans ((Prod.mk.inj hp).2.trans hsz)
  have hck : M1 (z + 1) = some (.inl (G.2.1 1, n, .inr (.inl (fun i => zck (st.lg i))))) := by rw [hM1, zw_un _ _ (by omega)]; exact hck
  have hfl : M1 (z + 5 + 2 * n) = some (.inl (G.2.1 3, 120, .inr (.inr (.inr (.inr (fun i => qs[i]?)))))) := by rw [hM1, zw_un _ _ (by omega)]; exact hfl
  have hx0 : M1 x = some (.inr (1, zoC n mb z st.fl.length (st.se + 1) (st.lo + 1) st.go st.pa)) := by rw [hM1]; exact zw_us _ _ _
  refine zc_eq0 (tgt := 41) hx hb dC_sendClock_9 (by decide) (by omega) (fun c => ?_) (fun c => ?_)
  · have hk : ∀ a : Nat, a ≠ x → M1 a = M a := fun a h1 => by rw [hM1, zw_un _ _ h1]
    refine W.widen (k := 1) (n := 6) (by omega) (by omega) ?_
    exact W.vret hx hb hr (fun t ht hW => ⟨⟨(M1, sz), rfl, ⟨⟨qs, g, by unfold zsend; rw [if_neg (by omega)]; exact hR.cnt rfl rfl rfl rfl hx0 (fun a e h1 h3 => (hk a h1).trans h3)⟩, fun a h1 h2 h3 => hk a h1, Nat.le_refl _⟩, by rw [ht]; exact hH, by rw [ht]; exact hsz⟩, hS.F ht⟩) hS.2.2 dC_sendClock_41
  · exact absurd rfl c

