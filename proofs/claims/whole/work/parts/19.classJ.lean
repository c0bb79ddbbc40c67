/-! THE CLASS: twice, deliver, make, where they return -/
theorem zMr.opn {G : zG} {M : zw_M} {L q : Nat} {mg : zMg} (h : zMr G M L q mg) : ∃ (told : Int64) (ch : Nat), L < q ∧ M q = some (.inr (0, zoM (nI mg.num) (nI mg.snd) (nI mg.rcv) (nI mg.byt) told ch)) ∧ (∀ k, mg.ck = some k → told = k ∧ ch = G.2.2) ∧ (mg.ck = none → told = -1 ∧ L < ch ∧ ∃ f : Nat → Int32, M ch = some (.inl (G.2.1 0, mg.chs.length, .inl f)) ∧ ∀ k, k < mg.chs.length → f k = nI (mg.chs.getD k 0)) := by
  unfold zMr at h
  obtain ⟨h1, h2⟩ := h
  cases hk : mg.ck with
  | some k =>
    rw [hk] at h2
    exact ⟨k, G.2.2, h1, h2, fun k2 e => ⟨Option.some.inj e, rfl⟩, fun e => by cases e⟩
  | none =>
    rw [hk] at h2
    obtain ⟨ch, f, a1, a2, a3, a4⟩ := h2
    exact ⟨-1, ch, h1, a2, fun k e => (by cases e), fun _ => ⟨rfl, a1, f, a3, a4⟩⟩
theorem zMr.copy {G : zG} {M M' : zw_M} {L q' : Nat} {mg : zMg} {num' : Nat} {told : Int64} {ch : Nat} (hq' : L < q') (h0 : M' q' = some (.inr (0, zoM (nI num') (nI mg.snd) (nI mg.rcv) (nI mg.byt) told ch))) (h1 : ∀ k, mg.ck = some k → told = k ∧ ch = G.2.2) (h2 : mg.ck = none → told = -1 ∧ L < ch ∧ ∃ f : Nat → Int32, M ch = some (.inl (G.2.1 0, mg.chs.length, .inl f)) ∧ ∀ k, k < mg.chs.length → f k = nI (mg.chs.getD k 0)) (hM : ∀ (a : Nat) (e : va_E), L < a → M a = some e → M' a = some e) : zMr G M' L q' (zMg.mk num' mg.snd mg.rcv mg.byt mg.ck mg.chs) := by
  unfold zMr
  refine ⟨hq', ?_⟩
  cases hk : mg.ck with
  | some k =>
    obtain ⟨e1, e2⟩ := h1 k hk
    subst e1; subst e2
    exact h0
  | none =>
    obtain ⟨e1, e2, f, e3, e4⟩ := h2 hk
    subst e1
    exact ⟨ch, f, e2, h0, hM _ _ e2 e3, e4⟩
set_option maxHeartbeats 4000000 in
set_option maxRecDepth 100000 in
theorem kC_twice_yes (l : Launch) (G : zG) (B : Nat) (M : zw_M) (sz : Nat) (x z L n mb : Nat) (st : zSt) (qs : List Nat) (g : Nat → Int32) (hn : n ≤ 8) (hR : zCR G M x z L n mb st qs g) (hL : L < sz) (j : Nat) (mg : zMg) (hj : j < st.fl.length) (hmg : st.fl[j]? = some mg) (hlt : st.fl.length < 120) : Met l yC_twice (Cond.code yC_twice bC_twice 4 (some .int) :: zT) { frames := 2, cells := 1, slots := 6, locals := 40 } (zq G B M sz [.ref x, .int (nI j)]) (va_Qi (fun (r : Int32) (u : zw_M × Nat) => r = nI st.se ∧ zCO G x z L n mb sz M (zsend st mg.snd mg.rcv mg.byt mg.ck mg.chs) u) (zr_o G.1 zCl B) (zw_A B)) (1) (6) (zw_A B) := by
  refine Met.ofW (cc := bC_twice) (maxL := 4) (ret := (some .int)) (by decide) rfl ?_
  intro p e s m args below meth c s₁ B0 hml hv
  obtain ⟨rfl, hE, hH, hsz⟩ := hv
  have hx := B0.exec
  have hb := B0.bytes
  have hr := B0.returns
  have hlocks := B0.notSynchronized
  have hz : ∀ w ∈ zT, w.before _ s = true := fun w h => atoms_spec (ws := Cond.code yC_twice bC_twice 4 (some .int) :: zT) B0.pre w (List.mem_cons_of_mem _ h)
  have hown : s.vm.findClass RC = some m.cls := findClass_of_methodNamed B0.named
  have hK := hE.1
  have hl := lv_entry ([.ref x, .int (nI j)]) (n := 4) (Nat.le_of_ble_eq_true rfl)
  rw [lg_entry_eq]
  generalize (lg_sl ([.ref x, .int (nI j)]) ++ List.replicate (4 - (lg_sl ([.ref x, .int (nI j)])).length) Slot.unset).toArray = ls at hl ⊢
  have hl : lv_has ls 4 [(0, .ref x), (1, .int (nI j))] := hl
  have hS : va_S (zw_A B) s.heap s.heap [] := va_S.rf
  have hin : meth.name = "twice" := (name_of_methodNamed B0.named B0.method).1
  have hlt0 : ∀ (a : Nat) (e : va_E), M a = some e → a < sz := fun a e h => by rw [← hsz]; exact hH.lt h
  obtain ⟨q, mg1, hq, hmg1, hmr⟩ := hR.at hj
  have hmm : mg1 = mg := Option.some.inj (hmg1.symm.trans hmg)
  rw [hmm] at hmr
  obtain ⟨told, ch, hqL, hq0, hcc, hcp⟩ := hmr.opn
  have hqz := hlt0 q _ hq0
  have hx0 := hR.obj
  have hfl := hR.fl
  have hxz := hR.xz
  have hzL := hR.zL
  refine lv_aload_n hx hb dC_twice_0 rfl (lv_at hl 0 rfl) ?_
  refine lv_iload_n hx hb dC_twice_1 rfl (lv_at hl 1 rfl) ?_
  refine zr_V (As := [.int (nI j)]) (rest := []) (q := (RC, TC, 14)) ⟨hx, hb, hml, hown, hz⟩ (kC_messageAt_in l G B M x n mb z st.fl.length st.se st.lo st.go st.pa hn hx0 (fun i => qs[i]?) hfl (by omega) j q hj hq) (zt_V zm_81 zm_83 zs_0 zm_1 zm_84) rfl rfl rfl (show _ ∧ _ ∧ _ ∧ _ = some 1 from by decide +kernel) ⟨Nat.le_of_ble_eq_true rfl, Nat.le_of_ble_eq_true rfl⟩ zE_blind (zE_at hE hS) hH hK hx0 rfl rfl hl.1 rfl (Nat.le_of_ble_eq_true rfl) dC_twice_2 ⟨Nat.le_of_ble_eq_true rfl, Nat.le_of_ble_eq_true rfl⟩ ?_
  refine lv_astore_n (lv' := [(2, .ref q), (0, .ref x), (1, .int (nI j))]) hx hb dC_twice_5 rfl hl (by decide) rfl (fun ls hl => ?_)
  refine lv_aload_n hx hb dC_twice_6 rfl (lv_at hl 0 rfl) ?_
  refine lv_ifnonnull (tgt := 20) hx hb dC_twice_7 (by decide) ?_
  refine lv_aload_n hx hb dC_twice_20 rfl (lv_at hl 1 rfl) ?_
  refine va_get (D := G.1) (ci := 1) (v := .int (nI st.se)) (C := RC) (T := TC) (N := 14) hx hb hz iC hown hK (hH.one hx0) 0 rfl rfl 10 (by decide) (hz _ zm_41) (fun _ h9 => h9) rfl dC_twice_21 ?_
  refine lv_istore_n (lv' := [(3, .int (nI st.se)), (2, .ref q), (0, .ref x), (1, .int (nI j))]) hx hb dC_twice_24 rfl hl (by decide) rfl (fun ls hl => ?_)
  refine lv_aload_n hx hb dC_twice_25 rfl (lv_at hl 2 rfl) ?_
  refine zr_Vi (As := []) (rest := []) (q := (RC, TC, 14)) (mc := 0) (ms := 0) ⟨hx, hb, hml, hown, hz⟩ (kC_count_yes l G B M _ x n mb z st.fl.length st.se st.lo st.go st.pa hn hx0 hlt) (zt_V zm_272 zm_274 zs_10 zm_1 zm_275) rfl rfl rfl (show _ ∧ _ ∧ _ ∧ _ = some 0 from by decide +kernel) ⟨Nat.le_of_ble_eq_true rfl, Nat.le_of_ble_eq_true rfl⟩ zE_blind (zE_at hE hS) hH hK hx0 rfl rfl hS hl.1 rfl (Nat.le_of_ble_eq_true rfl) dC_twice_26 ⟨Nat.le_of_ble_eq_true rfl, Nat.le_of_ble_eq_true rfl⟩ (fun r1 M1 sz1 H1 L1 hp hH hz1 hz2 hS => ?_)
  obtain ⟨rfl, hp⟩ := hp
  have hM1 := (Prod.mk.inj hp).1
  have hsz : H1.size = sz := hz1.trans ((Prod.mk.inj hp).2.trans hsz)
  have hfl : M1 (z + 5 + 2 * n) = some (.inl (G.2.1 3, 120, .inr (.inr (.inr (.inr (fun i => qs[i]?)))))) := by rw [hM1, zw_un _ _ (by omega)]; exact hfl
  have hq0 : M1 q = some (.inr (0, zoM (nI mg.num) (nI mg.snd) (nI mg.rcv) (nI mg.byt) told ch)) := by rw [hM1, zw_un _ _ (by omega)]; exact hq0
  have hx0 : M1 x = some (.inr (1, zoC n mb z st.fl.length (st.se + 1) st.lo st.go st.pa)) := by rw [hM1]; exact zw_us _ _ _
  refine zc_eq0 (tgt := 64) hx hb dC_twice_29 (by decide) (by omega) (fun c => ?_) (fun c => ?_)
  · exact absurd c (by decide)
  · refine lv_aload_n hx hb dC_twice_32 rfl (lv_at hl 2 rfl) ?_
    refine zw_new (D := G.1) (ci := 0) (fs := [.int 0, .int 0, .int 0, .int 0, .long 0, .null]) (C := RM) (T := TM) (N := 6) hx hb hz iM tM tM_ok hown (hz _ zm_29) (hz _ zm_276) (hz _ zm_10) hK hH hS (Nat.le_trans hE.2.1 hS.1) rfl zM_def (Nat.le_of_ble_eq_true rfl) (Nat.le_of_ble_eq_true rfl) dC_twice_33 (fun H2 hH hz1 hS => ?_)
    rw [hsz] at hH hz1 ⊢
    have hsz : H2.size = sz + 1 := hz1
    obtain ⟨M2, hM2⟩ : ∃ Mq, Mq = zw_u M1 sz (.inr (0, [.int 0, .int 0, .int 0, .int 0, .long 0, .null])) := ⟨_, rfl⟩
    have hH : zw_H G.1 zCl B M2 H2 := by rw [hM2]; exact hH
    have hfl : M2 (z + 5 + 2 * n) = some (.inl (G.2.1 3, 120, .inr (.inr (.inr (.inr (fun i => qs[i]?)))))) := by rw [hM2, zw_un _ _ (by omega)]; exact hfl
    have hq0 : M2 q = some (.inr (0, zoM (nI mg.num) (nI mg.snd) (nI mg.rcv) (nI mg.byt) told ch)) := by rw [hM2, zw_un _ _ (by omega)]; exact hq0
    have hx0 : M2 x = some (.inr (1, zoC n mb z st.fl.length (st.se + 1) st.lo st.go st.pa)) := by rw [hM2, zw_un _ _ (by omega)]; exact hx0
    have hn0 : M2 sz = some (.inr (0, [.int 0, .int 0, .int 0, .int 0, .long 0, .null])) := by rw [hM2]; exact zw_us _ _ _
    refine lv_dup hx hb dC_twice_36 rfl ?_
    refine lv_iload_n hx hb dC_twice_37 rfl (lv_at hl 0 rfl) ?_
    refine lv_aload_n hx hb dC_twice_38 rfl (lv_at hl 1 rfl) ?_
    refine va_get (D := G.1) (ci := 0) (v := .int (nI mg.snd)) (C := RM) (T := TM) (N := 6) hx hb hz iM hown hK (hH.one hq0) 0 rfl rfl 1 (by decide) (hz _ zm_286) (fun _ h9 => h9) rfl dC_twice_39 ?_
    refine lv_aload_n hx hb dC_twice_42 rfl (lv_at hl 1 rfl) ?_
    refine va_get (D := G.1) (ci := 0) (v := .int (nI mg.rcv)) (C := RM) (T := TM) (N := 6) hx hb hz iM hown hK (hH.one hq0) 0 rfl rfl 2 (by decide) (hz _ zm_288) (fun _ h9 => h9) rfl dC_twice_43 ?_
    refine lv_aload_n hx hb dC_twice_46 rfl (lv_at hl 1 rfl) ?_
    refine va_get (D := G.1) (ci := 0) (v := .int (nI mg.byt)) (C := RM) (T := TM) (N := 6) hx hb hz iM hown hK (hH.one hq0) 0 rfl rfl 3 (by decide) (hz _ zm_290) (fun _ h9 => h9) rfl dC_twice_47 ?_
    refine lv_aload_n hx hb dC_twice_50 rfl (lv_at hl 1 rfl) ?_
    refine va_get (D := G.1) (ci := 0) (v := .long told) (C := RM) (T := TM) (N := 6) hx hb hz iM hown hK (hH.one hq0) 0 rfl rfl 4 (by decide) (hz _ zm_292) (fun _ h9 => h9) rfl dC_twice_51 ?_
    refine lv_aload_n hx hb dC_twice_54 rfl (lv_at hl 1 rfl) ?_
    refine va_get (D := G.1) (ci := 0) (v := .ref ch) (C := RM) (T := TM) (N := 6) hx hb hz iM hown hK (hH.one hq0) 0 rfl rfl 5 (by decide) (hz _ zm_294) (fun _ h9 => h9) rfl dC_twice_55 ?_
    refine zr_I (As := [.int (nI st.se), .int (nI mg.snd), .int (nI mg.rcv), .int (nI mg.byt), .long told, .ref ch]) (rest := [.ref sz, .ref x]) (mc := 0) (ms := 0) ⟨hx, hb, hml, hown, hz⟩ (kM_init l G B M2 _ sz (nI st.se) (nI mg.snd) (nI mg.rcv) (nI mg.byt) told ch _ _ _ _ _ _ hn0) (zt_I zm_281) rfl rfl rfl (hz _ zm_10) (hz _ zm_279) (hz _ zm_280) rfl (show _ ∧ _ ∧ _ = some 6 from by decide +kernel) ⟨Nat.le_of_ble_eq_true rfl, Nat.le_of_ble_eq_true rfl⟩ zE_blind (zE_at hE hS) hH hS hl.1 rfl (Nat.le_of_ble_eq_true rfl) dC_twice_58 ⟨Nat.le_of_ble_eq_true rfl, Nat.le_of_ble_eq_true rfl⟩ (fun M3 sz3 H3 L3 hp hH hz1 hz2 hS => ?_)
    have hM3 := (Prod.mk.inj hp).1
    have hsz : H3.size = sz + 1 := hz1.trans ((Prod.mk.inj hp).2.trans hsz)
    have hfl : M3 (z + 5 + 2 * n) = some (.inl (G.2.1 3, 120, .inr (.inr (.inr (.inr (fun i => qs[i]?)))))) := by rw [hM3, zw_un _ _ (by omega)]; exact hfl
    have hq0 : M3 q = some (.inr (0, zoM (nI mg.num) (nI mg.snd) (nI mg.rcv) (nI mg.byt) told ch)) := by rw [hM3, zw_un _ _ (by omega)]; exact hq0
    have hx0 : M3 x = some (.inr (1, zoC n mb z st.fl.length (st.se + 1) st.lo st.go st.pa)) := by rw [hM3, zw_un _ _ (by omega)]; exact hx0
    have hn0 : M3 sz = some (.inr (0, zoM (nI st.se) (nI mg.snd) (nI mg.rcv) (nI mg.byt) told ch)) := by rw [hM3]; exact zw_us _ _ _
    refine zr_Vv (As := [.ref sz]) (rest := []) (q := (RC, TC, 14)) (mc := 0) (ms := 0) ⟨hx, hb, hml, hown, hz⟩ (kC_put l G B M3 _ x n mb z st.fl.length (st.se + 1) st.lo st.go st.pa hn hx0 (fun i => qs[i]?) hfl hxz hlt sz _ hn0) (zt_V zm_308 zm_310 zs_11 zm_1 zm_311) rfl rfl rfl (show _ ∧ _ ∧ _ ∧ _ = some 1 from by decide +kernel) ⟨Nat.le_of_ble_eq_true rfl, Nat.le_of_ble_eq_true rfl⟩ zE_blind (zE_at hE hS) hH hK hx0 rfl rfl hS hl.1 rfl (Nat.le_of_ble_eq_true rfl) dC_twice_61 ⟨Nat.le_of_ble_eq_true rfl, Nat.le_of_ble_eq_true rfl⟩ (fun M4 sz4 H4 L4 hp hH hz1 hz2 hS => ?_)
    have hM4 := (Prod.mk.inj hp).1
    have hsz : H4.size = sz + 1 := hz1.trans ((Prod.mk.inj hp).2.trans hsz)
    have hn0 : M4 sz = some (.inr (0, zoM (nI st.se) (nI mg.snd) (nI mg.rcv) (nI mg.byt) told ch)) := by rw [hM4, zw_un _ _ (by omega), zw_un _ _ (by omega)]; exact hn0
    have hfl : M4 (z + 5 + 2 * n) = some (.inl (G.2.1 3, 120, .inr (.inr (.inr (.inr (va_up (fun i => qs[i]?) st.fl.length (some sz))))))) := by rw [hM4, zw_un _ _ (by omega)]; exact zw_us _ _ _
    have hx0 : M4 x = some (.inr (1, zoC n mb z (st.fl.length + 1) (st.se + 1) st.lo st.go st.pa)) := by rw [hM4]; exact zw_us _ _ _
    have hk : ∀ a : Nat, a ≠ x → a ≠ z + 5 + 2 * n → a ≠ sz → M4 a = M a := fun a h1 h2 h3 => by rw [hM4, zw_un _ _ h1, zw_un _ _ h2, hM3, zw_un _ _ h3, hM2, zw_un _ _ h3, hM1, zw_un _ _ h1]
    have hsnd : zsend st mg.snd mg.rcv mg.byt mg.ck mg.chs = zSt.mk st.dn st.lg st.wt (st.fl ++ [zMg.mk st.se mg.snd mg.rcv mg.byt mg.ck mg.chs]) (st.se + 1) st.lo st.go st.pa := if_pos hlt
    refine lv_iload_n hx hb dC_twice_64 rfl (lv_at hl 0 rfl) ?_
    refine W.widen (k := 1) (n := 6) (by omega) (by omega) ?_
    exact W.iret (v := (nI st.se)) hx hb hr (fun t ht hW => ⟨⟨(nI st.se), (M4, (sz + 1)), rfl, ⟨rfl, ⟨qs ++ [sz], g, by rw [hsnd]; exact hR.put (mg := zMg.mk st.se mg.snd mg.rcv mg.byt mg.ck mg.chs) (q := sz) rfl rfl rfl rfl (by show M4 x = some (.inr (1, zoC n mb z (st.fl ++ [_]).length (st.se + 1) st.lo st.go st.pa)); rw [List.length_append]; exact hx0) hfl (zMr.copy (M := M) (mg := mg) (num' := st.se) hL hn0 hcc hcp (fun a e h1 h2 => (hk a (by omega) (by omega) (Nat.ne_of_lt (hlt0 a e h2))).trans h2)) (fun a e h1 h2 h3 => (hk a h1 h2 (Nat.ne_of_lt (hlt0 a e h3))).trans h3)⟩, fun a h1 h2 h3 => hk a h1 (by omega) (by omega), by show sz ≤ sz + 1; omega⟩, by rw [ht]; exact hH, by rw [ht]; exact hsz⟩, hS.F ht⟩) hS.2.2 dC_twice_65

set_option maxHeartbeats 4000000 in
set_option maxRecDepth 100000 in
theorem kC_twice_no (l : Launch) (G : zG) (B : Nat) (M : zw_M) (sz : Nat) (x z L n mb : Nat) (st : zSt) (qs : List Nat) (g : Nat → Int32) (hn : n ≤ 8) (hR : zCR G M x z L n mb st qs g) (j : Nat) (mg : zMg) (hj : j < st.fl.length) (hmg : st.fl[j]? = some mg) (hlt : st.fl.length = 120) : Met l yC_twice (Cond.code yC_twice bC_twice 4 (some .int) :: zT) { frames := 2, cells := 1, slots := 6, locals := 40 } (zq G B M sz [.ref x, .int (nI j)]) (va_Qi (fun (r : Int32) (u : zw_M × Nat) => r = nI st.se ∧ zCO G x z L n mb sz M (zsend st mg.snd mg.rcv mg.byt mg.ck mg.chs) u) (zr_o G.1 zCl B) (zw_A B)) (1) (6) (zw_A B) := by
  refine Met.ofW (cc := bC_twice) (maxL := 4) (ret := (some .int)) (by decide) rfl ?_
  intro p e s m args below meth c s₁ B0 hml hv
  obtain ⟨rfl, hE, hH, hsz⟩ := hv
  have hx := B0.exec
  have hb := B0.bytes
  have hr := B0.returns
  have hlocks := B0.notSynchronized
  have hz : ∀ w ∈ zT, w.before _ s = true := fun w h => atoms_spec (ws := Cond.code yC_twice bC_twice 4 (some .int) :: zT) B0.pre w (List.mem_cons_of_mem _ h)
  have hown : s.vm.findClass RC = some m.cls := findClass_of_methodNamed B0.named
  have hK := hE.1
  have hl := lv_entry ([.ref x, .int (nI j)]) (n := 4) (Nat.le_of_ble_eq_true rfl)
  rw [lg_entry_eq]
  generalize (lg_sl ([.ref x, .int (nI j)]) ++ List.replicate (4 - (lg_sl ([.ref x, .int (nI j)])).length) Slot.unset).toArray = ls at hl ⊢
  have hl : lv_has ls 4 [(0, .ref x), (1, .int (nI j))] := hl
  have hS : va_S (zw_A B) s.heap s.heap [] := va_S.rf
  have hin : meth.name = "twice" := (name_of_methodNamed B0.named B0.method).1
  have hlt0 : ∀ (a : Nat) (e : va_E), M a = some e → a < sz := fun a e h => by rw [← hsz]; exact hH.lt h
  obtain ⟨q, mg1, hq, hmg1, hmr⟩ := hR.at hj
  have hmm : mg1 = mg := Option.some.inj (hmg1.symm.trans hmg)
  rw [hmm] at hmr
  obtain ⟨told, ch, hqL, hq0, hcc, hcp⟩ := hmr.opn
  have hqz := hlt0 q _ hq0
  have hx0 := hR.obj
  have hfl := hR.fl
  have hxz := hR.xz
  have hzL := hR.zL
  refine lv_aload_n hx hb dC_twice_0 rfl (lv_at hl 0 rfl) ?_
  refine lv_iload_n hx hb dC_twice_1 rfl (lv_at hl 1 rfl) ?_
  refine zr_V (As := [.int (nI j)]) (rest := []) (q := (RC, TC, 14)) ⟨hx, hb, hml, hown, hz⟩ (kC_messageAt_in l G B M x n mb z st.fl.length st.se st.lo st.go st.pa hn hx0 (fun i => qs[i]?) hfl (by omega) j q hj hq) (zt_V zm_81 zm_83 zs_0 zm_1 zm_84) rfl rfl rfl (show _ ∧ _ ∧ _ ∧ _ = some 1 from by decide +kernel) ⟨Nat.le_of_ble_eq_true rfl, Nat.le_of_ble_eq_true rfl⟩ zE_blind (zE_at hE hS) hH hK hx0 rfl rfl hl.1 rfl (Nat.le_of_ble_eq_true rfl) dC_twice_2 ⟨Nat.le_of_ble_eq_true rfl, Nat.le_of_ble_eq_true rfl⟩ ?_
  refine lv_astore_n (lv' := [(2, .ref q), (0, .ref x), (1, .int (nI j))]) hx hb dC_twice_5 rfl hl (by decide) rfl (fun ls hl => ?_)
  refine lv_aload_n hx hb dC_twice_6 rfl (lv_at hl 0 rfl) ?_
  refine lv_ifnonnull (tgt := 20) hx hb dC_twice_7 (by decide) ?_
  refine lv_aload_n hx hb dC_twice_20 rfl (lv_at hl 1 rfl) ?_
  refine va_get (D := G.1) (ci := 1) (v := .int (nI st.se)) (C := RC) (T := TC) (N := 14) hx hb hz iC hown hK (hH.one hx0) 0 rfl rfl 10 (by decide) (hz _ zm_41) (fun _ h9 => h9) rfl dC_twice_21 ?_
  refine lv_istore_n (lv' := [(3, .int (nI st.se)), (2, .ref q), (0, .ref x), (1, .int (nI j))]) hx hb dC_twice_24 rfl hl (by decide) rfl (fun ls hl => ?_)
  refine lv_aload_n hx hb dC_twice_25 rfl (lv_at hl 2 rfl) ?_
  refine zr_Vi (As := []) (rest := []) (q := (RC, TC, 14)) (mc := 0) (ms := 0) ⟨hx, hb, hml, hown, hz⟩ (kC_count_no l G B M _ x n mb z st.fl.length st.se st.lo st.go st.pa hn hx0 hlt) (zt_V zm_272 zm_274 zs_10 zm_1 zm_275) rfl rfl rfl (show _ ∧ _ ∧ _ ∧ _ = some 0 from by decide +kernel) ⟨Nat.le_of_ble_eq_true rfl, Nat.le_of_ble_eq_true rfl⟩ zE_blind (zE_at hE hS) hH hK hx0 rfl rfl hS hl.1 rfl (Nat.le_of_ble_eq_true rfl) dC_twice_26 ⟨Nat.le_of_ble_eq_true rfl, Nat.le_of_ble_eq_true rfl⟩ (fun r1 M1 sz1 H1 L1 hp hH hz1 hz2 hS => ?_)
  obtain ⟨rfl, hp⟩ := hp
  have hM1 := (Prod.mk.inj hp).1
  have hsz : H1.size = sz := hz1.trans ((Prod.mk.inj hp).2.trans hsz)
  have hfl : M1 (z + 5 + 2 * n) = some (.inl (G.2.1 3, 120, .inr (.inr (.inr (.inr (fun i => qs[i]?)))))) := by rw [hM1, zw_un _ _ (by omega)]; exact hfl
  have hq0 : M1 q = some (.inr (0, zoM (nI mg.num) (nI mg.snd) (nI mg.rcv) (nI mg.byt) told ch)) := by rw [hM1, zw_un _ _ (by omega)]; exact hq0
  have hx0 : M1 x = some (.inr (1, zoC n mb z st.fl.length (st.se + 1) (st.lo + 1) st.go st.pa)) := by rw [hM1]; exact zw_us _ _ _
  refine zc_eq0 (tgt := 64) hx hb dC_twice_29 (by decide) (by omega) (fun c => ?_) (fun c => ?_)
  · refine lv_iload_n hx hb dC_twice_64 rfl (lv_at hl 0 rfl) ?_
    have hk : ∀ a : Nat, a ≠ x → M1 a = M a := fun a h1 => by rw [hM1, zw_un _ _ h1]
    refine W.widen (k := 1) (n := 6) (by omega) (by omega) ?_
    exact W.iret (v := (nI st.se)) hx hb hr (fun t ht hW => ⟨⟨(nI st.se), (M1, sz), rfl, ⟨rfl, ⟨qs, g, by unfold zsend; rw [if_neg (by omega)]; exact hR.cnt rfl rfl rfl rfl hx0 (fun a e h1 h3 => (hk a h1).trans h3)⟩, fun a h1 h2 h3 => hk a h1, Nat.le_refl _⟩, by rw [ht]; exact hH, by rw [ht]; exact hsz⟩, hS.F ht⟩) hS.2.2 dC_twice_65
  · exact absurd rfl c

theorem kC_twice (l : Launch) (G : zG) (B : Nat) (M : zw_M) (sz : Nat) (x z L n mb : Nat) (st : zSt) (qs : List Nat) (g : Nat → Int32) (hn : n ≤ 8) (hR : zCR G M x z L n mb st qs g) (hL : L < sz) (j : Nat) (mg : zMg) (hj : j < st.fl.length) (hmg : st.fl[j]? = some mg) (h120 : st.fl.length ≤ 120) : Met l yC_twice (Cond.code yC_twice bC_twice 4 (some .int) :: zT) { frames := 2, cells := 1, slots := 6, locals := 40 } (zq G B M sz [.ref x, .int (nI j)]) (va_Qi (fun (r : Int32) (u : zw_M × Nat) => r = nI st.se ∧ zCO G x z L n mb sz M (zsend st mg.snd mg.rcv mg.byt mg.ck mg.chs) u) (zr_o G.1 zCl B) (zw_A B)) (1) (6) (zw_A B) := by
  by_cases h : st.fl.length < 120
  · exact kC_twice_yes l G B M sz x z L n mb st qs g hn hR hL j mg hj hmg h
  · exact kC_twice_no l G B M sz x z L n mb st qs g hn hR j mg hj hmg (by omega)
set_option maxHeartbeats 4000000 in
set_option maxRecDepth 100000 in
theorem kC_deliver_down (l : Launch) (G : zG) (B : Nat) (M : zw_M) (sz : Nat) (x z L n mb : Nat) (st : zSt) (qs : List Nat) (g : Nat → Int32) (hn : n ≤ 8) (hR : zCR G M x z L n mb st qs g) (hL : L < sz) (hok : zOK n st) (hmb : mb ≤ 2000) (j : Nat) (mg : zMg) (hj : j < st.fl.length) (hmg : st.fl[j]? = some mg) (hd : st.dn mg.rcv = true) : Met l yC_deliver (Cond.code yC_deliver bC_deliver 3 (some .int) :: zT) { frames := 4, cells := 960, slots := 3360, locals := 140 } (zq G B M sz [.ref x, .int (nI j)]) (va_Qi (fun (r : Int32) (u : zw_M × Nat) => r = nI (zdeliver st j mg mb).2 ∧ zCO G x z L n mb sz M ((zdeliver st j mg mb).1) u) (zr_o G.1 zCl B) (zw_A B)) (960) (3360) (zw_A B) := by
  refine Met.ofW (cc := bC_deliver) (maxL := 3) (ret := (some .int)) (by decide) rfl ?_
  intro p e s m args below meth c s₁ B0 hml hv
  obtain ⟨rfl, hE, hH, hsz⟩ := hv
  have hx := B0.exec
  have hb := B0.bytes
  have hr := B0.returns
  have hlocks := B0.notSynchronized
  have hz : ∀ w ∈ zT, w.before _ s = true := fun w h => atoms_spec (ws := Cond.code yC_deliver bC_deliver 3 (some .int) :: zT) B0.pre w (List.mem_cons_of_mem _ h)
  have hown : s.vm.findClass RC = some m.cls := findClass_of_methodNamed B0.named
  have hK := hE.1
  have hl := lv_entry ([.ref x, .int (nI j)]) (n := 3) (Nat.le_of_ble_eq_true rfl)
  rw [lg_entry_eq]
  generalize (lg_sl ([.ref x, .int (nI j)]) ++ List.replicate (3 - (lg_sl ([.ref x, .int (nI j)])).length) Slot.unset).toArray = ls at hl ⊢
  have hl : lv_has ls 3 [(0, .ref x), (1, .int (nI j))] := hl
  have hS : va_S (zw_A B) s.heap s.heap [] := va_S.rf
  have hin : meth.name = "deliver" := (name_of_methodNamed B0.named B0.method).1
  have hlt0 : ∀ (a : Nat) (e : va_E), M a = some e → a < sz := fun a e h => by rw [← hsz]; exact hH.lt h
  have hb1 := zbool (st.dn mg.rcv)
  have h120 := hok.fl
  obtain ⟨q, mg1, hq, hmg1, hmr⟩ := hR.at hj
  have hmm : mg1 = mg := Option.some.inj (hmg1.symm.trans hmg)
  rw [hmm] at hmr
  obtain ⟨told, ch, hqL, hq0, hcc, hcp⟩ := hmr.opn
  have hqz := hlt0 q _ hq0
  have hmo := hok.msg (List.mem_of_getElem? hmg)
  have hok1 := hok.drop j
  have hx0 := hR.obj
  have hfl := hR.fl
  have hxz := hR.xz
  have hzL := hR.zL
  refine lv_aload_n hx hb dC_deliver_0 rfl (lv_at hl 0 rfl) ?_
  refine lv_iload_n hx hb dC_deliver_1 rfl (lv_at hl 1 rfl) ?_
  refine zr_V (As := [.int (nI j)]) (rest := []) (q := (RC, TC, 14)) ⟨hx, hb, hml, hown, hz⟩ (kC_messageAt_in l G B M x n mb z st.fl.length st.se st.lo st.go st.pa hn hx0 (fun i => qs[i]?) hfl (by omega) j q hj hq) (zt_V zm_81 zm_83 zs_0 zm_1 zm_84) rfl rfl rfl (show _ ∧ _ ∧ _ ∧ _ = some 1 from by decide +kernel) ⟨Nat.le_of_ble_eq_true rfl, Nat.le_of_ble_eq_true rfl⟩ zE_blind (zE_at hE hS) hH hK hx0 rfl rfl hl.1 rfl (Nat.le_of_ble_eq_true rfl) dC_deliver_2 ⟨Nat.le_of_ble_eq_true rfl, Nat.le_of_ble_eq_true rfl⟩ ?_
  refine lv_astore_n (lv' := [(2, .ref q), (0, .ref x), (1, .int (nI j))]) hx hb dC_deliver_5 rfl hl (by decide) rfl (fun ls hl => ?_)
  refine lv_aload_n hx hb dC_deliver_6 rfl (lv_at hl 0 rfl) ?_
  refine lv_ifnonnull (tgt := 20) hx hb dC_deliver_7 (by decide) ?_
  refine lv_aload_n hx hb dC_deliver_20 rfl (lv_at hl 1 rfl) ?_
  refine lv_iload_n hx hb dC_deliver_21 rfl (lv_at hl 2 rfl) ?_
  refine zr_Vv (As := [.int (nI j)]) (rest := []) (q := (RC, TC, 14)) (mc := 0) (ms := 0) ⟨hx, hb, hml, hown, hz⟩ (kC_takeOut l G B M _ x z L n mb st qs g hn hR (by omega) j hj) (zt_V zm_85 zm_87 zs_1 zm_1 zm_88) rfl rfl rfl (show _ ∧ _ ∧ _ ∧ _ = some 1 from by decide +kernel) ⟨Nat.le_of_ble_eq_true rfl, Nat.le_of_ble_eq_true rfl⟩ zE_blind (zE_at hE hS) hH hK hx0 rfl rfl hS hl.1 rfl (Nat.le_of_ble_eq_true rfl) dC_deliver_22 ⟨Nat.le_of_ble_eq_true rfl, Nat.le_of_ble_eq_true rfl⟩ (fun M1 sz1 H1 L1 hp hH hz1 hz2 hS => ?_)
  rw [hsz] at hp
  obtain ⟨hR1, hk1, hz3⟩ := hp
  have hsz : H1.size = sz := hz1.trans hz3
  have hx0 := hR1.obj
  have hdn := hR1.dn
  have hxz := hR1.xz
  have hzL := hR1.zL
  have hq1 : M1 q = _ := (hk1 q (by omega) (by omega)).trans hq0
  refine lv_aload_n hx hb dC_deliver_25 rfl (lv_at hl 1 rfl) ?_
  refine va_get (D := G.1) (ci := 1) (v := .ref z) (C := RC) (T := TC) (N := 14) hx hb hz iC hown hK (hH.one hx0) 0 rfl rfl 2 (by decide) (hz _ zm_33) (fun _ h9 => h9) rfl dC_deliver_26 ?_
  refine lv_aload_n hx hb dC_deliver_29 rfl (lv_at hl 0 rfl) ?_
  refine va_get (D := G.1) (ci := 0) (v := .int (nI mg.rcv)) (C := RM) (T := TM) (N := 6) hx hb hz iM hown hK (hH.one hq1) 0 rfl rfl 2 (by decide) (hz _ zm_288) (fun _ h9 => h9) rfl dC_deliver_30 ?_
  refine zw_zald hx hb hK hH 2 hdn rfl (mg.rcv) rfl (hmo.2.1) (by omega) dC_deliver_33 ?_
  refine zw_ti (show nI ((zdrop st j).dn mg.rcv).toNat = nI (st.dn mg.rcv).toNat from rfl) ?_
  refine zc_eq0 (tgt := 49) hx hb dC_deliver_34 (by decide) (by omega) (fun b1 => ?_) (fun b1 => ?_)
  · exact absurd b1 (by rw [hd]; decide)
  · refine lv_aload_n hx hb dC_deliver_37 rfl (lv_at hl 1 rfl) ?_
    refine lv_dup hx hb dC_deliver_38 rfl ?_
    refine va_get (D := G.1) (ci := 1) (v := .int (nI ((zdrop st j).go))) (C := RC) (T := TC) (N := 14) hx hb hz iC hown hK (hH.one hx0) 0 rfl rfl 12 (by decide) (hz _ zm_43) (fun _ h9 => h9) rfl dC_deliver_39 ?_
    refine lv_iconst (v := nI 1) hx hb dC_deliver_42 (by decide) ?_
    refine lv_iadd hx hb dC_deliver_43 ?_
    refine zw_ti (nI_add _ _) ?_
    refine zw_put (D := G.1) (ci := 1) (v := .int (nI (((zdrop st j).go) + 1))) (ty := .int) (C := RC) (T := TC) (N := 14) hx hb hz iC tC tC_ok nC hown hK hH hS hx0 rfl 12 (by decide) (hz _ zm_43) (fun _ h9 => h9) rfl (by decide +kernel) rfl rfl (Nat.le_of_ble_eq_true rfl) dC_deliver_44 (fun H2 L2 hH hz1 hS => ?_)
    have hsz : H2.size = sz := hz1.trans hsz
    obtain ⟨M2, hM2⟩ : ∃ Mq, Mq = zw_u M1 x (.inr (1, zoC n mb z ((zdrop st j).fl.length) ((zdrop st j).se) ((zdrop st j).lo) (((zdrop st j).go) + 1) ((zdrop st j).pa))) := ⟨_, rfl⟩
    have hH : zw_H G.1 zCl B M2 H2 := by rw [hM2]; exact hH
    have hdn : M2 z = some (.inl (G.2.1 2, n, .inl (fun a9 => nI ((zdrop st j).dn a9).toNat))) := by rw [hM2, zw_un _ _ (by omega)]; exact hdn
    have hq1 : M2 q = some (.inr (0, zoM (nI mg.num) (nI mg.snd) (nI mg.rcv) (nI mg.byt) told ch)) := by rw [hM2, zw_un _ _ (by omega)]; exact hq1
    have hx0 : M2 x = some (.inr (1, zoC n mb z ((zdrop st j).fl.length) ((zdrop st j).se) ((zdrop st j).lo) (((zdrop st j).go) + 1) ((zdrop st j).pa))) := by rw [hM2]; exact zw_us _ _ _
    refine lv_iconst (v := nI 0) hx hb dC_deliver_47 (by decide) ?_
    have hk : ∀ a : Nat, a ≠ x → M2 a = M1 a := fun a h1 => by rw [hM2, zw_un _ _ h1]
    have hD : zdeliver st j mg mb = (zgone (zdrop st j), 0) := if_pos hd
    rw [hD]
    refine W.widen (k := 960) (n := 3360) (by omega) (by omega) ?_
    exact W.iret (v := (nI 0)) hx hb hr (fun t ht hW => ⟨⟨(nI 0), (M2, sz), rfl, ⟨rfl, ⟨_, _, hR1.cnt (st' := zgone (zdrop st j)) rfl rfl rfl rfl hx0 (fun a e h1 h2 => (hk a h1).trans h2)⟩, fun a h1 h2 h3 => (hk a h1).trans (hk1 a h1 (by omega)), Nat.le_refl _⟩, by rw [ht]; exact hH, by rw [ht]; exact hsz⟩, hS.F ht⟩) hS.2.2 dC_deliver_48

set_option maxHeartbeats 4000000 in
set_option maxRecDepth 100000 in
theorem kC_deliver_clock (l : Launch) (G : zG) (B : Nat) (M : zw_M) (sz : Nat) (x z L n mb : Nat) (st : zSt) (qs : List Nat) (g : Nat → Int32) (hn : n ≤ 8) (hR : zCR G M x z L n mb st qs g) (hL : L < sz) (hok : zOK n st) (hmb : mb ≤ 2000) (j : Nat) (mg : zMg) (hj : j < st.fl.length) (hmg : st.fl[j]? = some mg) (hd : st.dn mg.rcv = false) (k : Int64) (hk : mg.ck = some k) : Met l yC_deliver (Cond.code yC_deliver bC_deliver 3 (some .int) :: zT) { frames := 4, cells := 960, slots := 3360, locals := 140 } (zq G B M sz [.ref x, .int (nI j)]) (va_Qi (fun (r : Int32) (u : zw_M × Nat) => r = nI (zdeliver st j mg mb).2 ∧ zCO G x z L n mb sz M ((zdeliver st j mg mb).1) u) (zr_o G.1 zCl B) (zw_A B)) (960) (3360) (zw_A B) := by
  refine Met.ofW (cc := bC_deliver) (maxL := 3) (ret := (some .int)) (by decide) rfl ?_
  intro p e s m args below meth c s₁ B0 hml hv
  obtain ⟨rfl, hE, hH, hsz⟩ := hv
  have hx := B0.exec
  have hb := B0.bytes
  have hr := B0.returns
  have hlocks := B0.notSynchronized
  have hz : ∀ w ∈ zT, w.before _ s = true := fun w h => atoms_spec (ws := Cond.code yC_deliver bC_deliver 3 (some .int) :: zT) B0.pre w (List.mem_cons_of_mem _ h)
  have hown : s.vm.findClass RC = some m.cls := findClass_of_methodNamed B0.named
  have hK := hE.1
  have hl := lv_entry ([.ref x, .int (nI j)]) (n := 3) (Nat.le_of_ble_eq_true rfl)
  rw [lg_entry_eq]
  generalize (lg_sl ([.ref x, .int (nI j)]) ++ List.replicate (3 - (lg_sl ([.ref x, .int (nI j)])).length) Slot.unset).toArray = ls at hl ⊢
  have hl : lv_has ls 3 [(0, .ref x), (1, .int (nI j))] := hl
  have hS : va_S (zw_A B) s.heap s.heap [] := va_S.rf
  have hin : meth.name = "deliver" := (name_of_methodNamed B0.named B0.method).1
  have hlt0 : ∀ (a : Nat) (e : va_E), M a = some e → a < sz := fun a e h => by rw [← hsz]; exact hH.lt h
  have hb1 := zbool (st.dn mg.rcv)
  have h120 := hok.fl
  obtain ⟨q, mg1, hq, hmg1, hmr⟩ := hR.at hj
  have hmm : mg1 = mg := Option.some.inj (hmg1.symm.trans hmg)
  rw [hmm] at hmr
  obtain ⟨told, ch, hqL, hq0, hcc, hcp⟩ := hmr.opn
  have hqz := hlt0 q _ hq0
  have hmo := hok.msg (List.mem_of_getElem? hmg)
  have hok1 := hok.drop j
  have hx0 := hR.obj
  have hfl := hR.fl
  have hxz := hR.xz
  have hzL := hR.zL
  refine lv_aload_n hx hb dC_deliver_0 rfl (lv_at hl 0 rfl) ?_
  refine lv_iload_n hx hb dC_deliver_1 rfl (lv_at hl 1 rfl) ?_
  refine zr_V (As := [.int (nI j)]) (rest := []) (q := (RC, TC, 14)) ⟨hx, hb, hml, hown, hz⟩ (kC_messageAt_in l G B M x n mb z st.fl.length st.se st.lo st.go st.pa hn hx0 (fun i => qs[i]?) hfl (by omega) j q hj hq) (zt_V zm_81 zm_83 zs_0 zm_1 zm_84) rfl rfl rfl (show _ ∧ _ ∧ _ ∧ _ = some 1 from by decide +kernel) ⟨Nat.le_of_ble_eq_true rfl, Nat.le_of_ble_eq_true rfl⟩ zE_blind (zE_at hE hS) hH hK hx0 rfl rfl hl.1 rfl (Nat.le_of_ble_eq_true rfl) dC_deliver_2 ⟨Nat.le_of_ble_eq_true rfl, Nat.le_of_ble_eq_true rfl⟩ ?_
  refine lv_astore_n (lv' := [(2, .ref q), (0, .ref x), (1, .int (nI j))]) hx hb dC_deliver_5 rfl hl (by decide) rfl (fun ls hl => ?_)
  refine lv_aload_n hx hb dC_deliver_6 rfl (lv_at hl 0 rfl) ?_
  refine lv_ifnonnull (tgt := 20) hx hb dC_deliver_7 (by decide) ?_
  refine lv_aload_n hx hb dC_deliver_20 rfl (lv_at hl 1 rfl) ?_
  refine lv_iload_n hx hb dC_deliver_21 rfl (lv_at hl 2 rfl) ?_
  refine zr_Vv (As := [.int (nI j)]) (rest := []) (q := (RC, TC, 14)) (mc := 0) (ms := 0) ⟨hx, hb, hml, hown, hz⟩ (kC_takeOut l G B M _ x z L n mb st qs g hn hR (by omega) j hj) (zt_V zm_85 zm_87 zs_1 zm_1 zm_88) rfl rfl rfl (show _ ∧ _ ∧ _ ∧ _ = some 1 from by decide +kernel) ⟨Nat.le_of_ble_eq_true rfl, Nat.le_of_ble_eq_true rfl⟩ zE_blind (zE_at hE hS) hH hK hx0 rfl rfl hS hl.1 rfl (Nat.le_of_ble_eq_true rfl) dC_deliver_22 ⟨Nat.le_of_ble_eq_true rfl, Nat.le_of_ble_eq_true rfl⟩ (fun M1 sz1 H1 L1 hp hH hz1 hz2 hS => ?_)
  rw [hsz] at hp
  obtain ⟨hR1, hk1, hz3⟩ := hp
  have hsz : H1.size = sz := hz1.trans hz3
  have hx0 := hR1.obj
  have hdn := hR1.dn
  have hxz := hR1.xz
  have hzL := hR1.zL
  have hq1 : M1 q = _ := (hk1 q (by omega) (by omega)).trans hq0
  refine lv_aload_n hx hb dC_deliver_25 rfl (lv_at hl 1 rfl) ?_
  refine va_get (D := G.1) (ci := 1) (v := .ref z) (C := RC) (T := TC) (N := 14) hx hb hz iC hown hK (hH.one hx0) 0 rfl rfl 2 (by decide) (hz _ zm_33) (fun _ h9 => h9) rfl dC_deliver_26 ?_
  refine lv_aload_n hx hb dC_deliver_29 rfl (lv_at hl 0 rfl) ?_
  refine va_get (D := G.1) (ci := 0) (v := .int (nI mg.rcv)) (C := RM) (T := TM) (N := 6) hx hb hz iM hown hK (hH.one hq1) 0 rfl rfl 2 (by decide) (hz _ zm_288) (fun _ h9 => h9) rfl dC_deliver_30 ?_
  refine zw_zald hx hb hK hH 2 hdn rfl (mg.rcv) rfl (hmo.2.1) (by omega) dC_deliver_33 ?_
  refine zw_ti (show nI ((zdrop st j).dn mg.rcv).toNat = nI (st.dn mg.rcv).toNat from rfl) ?_
  obtain ⟨htk, hctk⟩ := hcc k hk
  have hkn : told ≠ -1 := by rw [htk]; have hm3 := hmo.2.2; rw [hk] at hm3; exact hm3.1
  have hD : zdeliver st j mg mb = zanswer (zdrop st j) mg.rcv mg.snd told mb := by unfold zdeliver; rw [if_neg (by rw [hd]; decide), hk, htk]
  rw [hD]
  refine zc_eq0 (tgt := 49) hx hb dC_deliver_34 (by decide) (by omega) (fun b1 => ?_) (fun b1 => ?_)
  · refine lv_aload_n hx hb dC_deliver_49 rfl (lv_at hl 0 rfl) ?_
    refine zr_V (As := []) (rest := []) (q := (RM, TM, 6)) ⟨hx, hb, hml, hown, hz⟩ (kM_isClock_yes l G B M1 q _ _ _ _ told ch hq1 hkn) (zt_V zm_320 zm_321 zm_322 zm_10 zm_323) rfl rfl rfl (show _ ∧ _ ∧ _ ∧ _ = some 0 from by decide +kernel) ⟨Nat.le_of_ble_eq_true rfl, Nat.le_of_ble_eq_true rfl⟩ zE_blind (zE_at hE hS) hH hK hq1 rfl rfl hl.1 rfl (Nat.le_of_ble_eq_true rfl) dC_deliver_50 ⟨Nat.le_of_ble_eq_true rfl, Nat.le_of_ble_eq_true rfl⟩ ?_
    refine zc_eq0 (tgt := 64) hx hb dC_deliver_53 (by decide) (by omega) (fun b2 => ?_) (fun b2 => ?_)
    · exact absurd b2 (by decide)
    · refine lv_aload_n hx hb dC_deliver_56 rfl (lv_at hl 1 rfl) ?_
      refine lv_aload_n hx hb dC_deliver_57 rfl (lv_at hl 0 rfl) ?_
      refine zr_Vi (As := [.ref q]) (rest := []) (q := (RC, TC, 14)) (mc := 960) (ms := 3360) ⟨hx, hb, hml, hown, hz⟩ (kC_answer l G B M1 _ x z L n mb (zdrop st j) _ g hn hR1 (by omega) hok1 q mg.rcv mg.snd (nI mg.num) (nI mg.byt) told ch hqL hq1 hmo.2.1 hmo.1 hmb) (zt_V zm_325 zm_327 zs_12 zm_1 zm_328) rfl rfl rfl (show _ ∧ _ ∧ _ ∧ _ = some 1 from by decide +kernel) ⟨Nat.le_of_ble_eq_true rfl, Nat.le_of_ble_eq_true rfl⟩ zE_blind (zE_at hE hS) hH hK hx0 rfl rfl hS hl.1 rfl (Nat.le_of_ble_eq_true rfl) dC_deliver_58 ⟨Nat.le_of_ble_eq_true rfl, Nat.le_of_ble_eq_true rfl⟩ (fun r2 M2 sz2 H2 L2 hp hH hz1 hz2 hS => ?_)
      obtain ⟨rfl, hR2, hfr2, hz4⟩ := hp
      rw [hsz] at hfr2
      refine lv_goto (tgt := 69) hx hb dC_deliver_61 (by decide) ?_
      refine W.widen (k := 960) (n := 3360) (by omega) (by omega) ?_
      exact W.iret (v := (nI (zanswer (zdrop st j) mg.rcv mg.snd told mb).2)) hx hb hr (fun t ht hW => ⟨⟨(nI (zanswer (zdrop st j) mg.rcv mg.snd told mb).2), (M2, H2.size), rfl, ⟨rfl, hR2, fun a h1 h2 h3 => (hfr2 a h1 h2 h3).trans (hk1 a h1 (by omega)), by show sz ≤ H2.size; omega⟩, by rw [ht]; exact hH, by rw [ht]⟩, hS.F ht⟩) hS.2.2 dC_deliver_69
  · exact absurd (by rw [hd]; rfl) b1

set_option maxHeartbeats 4000000 in
set_option maxRecDepth 100000 in
theorem kC_deliver_part (l : Launch) (G : zG) (B : Nat) (M : zw_M) (sz : Nat) (x z L n mb : Nat) (st : zSt) (qs : List Nat) (g : Nat → Int32) (hn : n ≤ 8) (hR : zCR G M x z L n mb st qs g) (hL : L < sz) (hok : zOK n st) (hmb : mb ≤ 2000) (j : Nat) (mg : zMg) (hj : j < st.fl.length) (hmg : st.fl[j]? = some mg) (hd : st.dn mg.rcv = false) (hk : mg.ck = none) : Met l yC_deliver (Cond.code yC_deliver bC_deliver 3 (some .int) :: zT) { frames := 4, cells := 960, slots := 3360, locals := 140 } (zq G B M sz [.ref x, .int (nI j)]) (va_Qi (fun (r : Int32) (u : zw_M × Nat) => r = nI (zdeliver st j mg mb).2 ∧ zCO G x z L n mb sz M ((zdeliver st j mg mb).1) u) (zr_o G.1 zCl B) (zw_A B)) (960) (3360) (zw_A B) := by
  refine Met.ofW (cc := bC_deliver) (maxL := 3) (ret := (some .int)) (by decide) rfl ?_
  intro p e s m args below meth c s₁ B0 hml hv
  obtain ⟨rfl, hE, hH, hsz⟩ := hv
  have hx := B0.exec
  have hb := B0.bytes
  have hr := B0.returns
  have hlocks := B0.notSynchronized
  have hz : ∀ w ∈ zT, w.before _ s = true := fun w h => atoms_spec (ws := Cond.code yC_deliver bC_deliver 3 (some .int) :: zT) B0.pre w (List.mem_cons_of_mem _ h)
  have hown : s.vm.findClass RC = some m.cls := findClass_of_methodNamed B0.named
  have hK := hE.1
  have hl := lv_entry ([.ref x, .int (nI j)]) (n := 3) (Nat.le_of_ble_eq_true rfl)
  rw [lg_entry_eq]
  generalize (lg_sl ([.ref x, .int (nI j)]) ++ List.replicate (3 - (lg_sl ([.ref x, .int (nI j)])).length) Slot.unset).toArray = ls at hl ⊢
  have hl : lv_has ls 3 [(0, .ref x), (1, .int (nI j))] := hl
  have hS : va_S (zw_A B) s.heap s.heap [] := va_S.rf
  have hin : meth.name = "deliver" := (name_of_methodNamed B0.named B0.method).1
  have hlt0 : ∀ (a : Nat) (e : va_E), M a = some e → a < sz := fun a e h => by rw [← hsz]; exact hH.lt h
  have hb1 := zbool (st.dn mg.rcv)
  have h120 := hok.fl
  obtain ⟨q, mg1, hq, hmg1, hmr⟩ := hR.at hj
  have hmm : mg1 = mg := Option.some.inj (hmg1.symm.trans hmg)
  rw [hmm] at hmr
  obtain ⟨told, ch, hqL, hq0, hcc, hcp⟩ := hmr.opn
  have hqz := hlt0 q _ hq0
  have hmo := hok.msg (List.mem_of_getElem? hmg)
  have hok1 := hok.drop j
  have hx0 := hR.obj
  have hfl := hR.fl
  have hxz := hR.xz
  have hzL := hR.zL
  refine lv_aload_n hx hb dC_deliver_0 rfl (lv_at hl 0 rfl) ?_
  refine lv_iload_n hx hb dC_deliver_1 rfl (lv_at hl 1 rfl) ?_
  refine zr_V (As := [.int (nI j)]) (rest := []) (q := (RC, TC, 14)) ⟨hx, hb, hml, hown, hz⟩ (kC_messageAt_in l G B M x n mb z st.fl.length st.se st.lo st.go st.pa hn hx0 (fun i => qs[i]?) hfl (by omega) j q hj hq) (zt_V zm_81 zm_83 zs_0 zm_1 zm_84) rfl rfl rfl (show _ ∧ _ ∧ _ ∧ _ = some 1 from by decide +kernel) ⟨Nat.le_of_ble_eq_true rfl, Nat.le_of_ble_eq_true rfl⟩ zE_blind (zE_at hE hS) hH hK hx0 rfl rfl hl.1 rfl (Nat.le_of_ble_eq_true rfl) dC_deliver_2 ⟨Nat.le_of_ble_eq_true rfl, Nat.le_of_ble_eq_true rfl⟩ ?_
  refine lv_astore_n (lv' := [(2, .ref q), (0, .ref x), (1, .int (nI j))]) hx hb dC_deliver_5 rfl hl (by decide) rfl (fun ls hl => ?_)
  refine lv_aload_n hx hb dC_deliver_6 rfl (lv_at hl 0 rfl) ?_
  refine lv_ifnonnull (tgt := 20) hx hb dC_deliver_7 (by decide) ?_
  refine lv_aload_n hx hb dC_deliver_20 rfl (lv_at hl 1 rfl) ?_
  refine lv_iload_n hx hb dC_deliver_21 rfl (lv_at hl 2 rfl) ?_
  refine zr_Vv (As := [.int (nI j)]) (rest := []) (q := (RC, TC, 14)) (mc := 0) (ms := 0) ⟨hx, hb, hml, hown, hz⟩ (kC_takeOut l G B M _ x z L n mb st qs g hn hR (by omega) j hj) (zt_V zm_85 zm_87 zs_1 zm_1 zm_88) rfl rfl rfl (show _ ∧ _ ∧ _ ∧ _ = some 1 from by decide +kernel) ⟨Nat.le_of_ble_eq_true rfl, Nat.le_of_ble_eq_true rfl⟩ zE_blind (zE_at hE hS) hH hK hx0 rfl rfl hS hl.1 rfl (Nat.le_of_ble_eq_true rfl) dC_deliver_22 ⟨Nat.le_of_ble_eq_true rfl, Nat.le_of_ble_eq_true rfl⟩ (fun M1 sz1 H1 L1 hp hH hz1 hz2 hS => ?_)
  rw [hsz] at hp
  obtain ⟨hR1, hk1, hz3⟩ := hp
  have hsz : H1.size = sz := hz1.trans hz3
  have hx0 := hR1.obj
  have hdn := hR1.dn
  have hxz := hR1.xz
  have hzL := hR1.zL
  have hq1 : M1 q = _ := (hk1 q (by omega) (by omega)).trans hq0
  refine lv_aload_n hx hb dC_deliver_25 rfl (lv_at hl 1 rfl) ?_
  refine va_get (D := G.1) (ci := 1) (v := .ref z) (C := RC) (T := TC) (N := 14) hx hb hz iC hown hK (hH.one hx0) 0 rfl rfl 2 (by decide) (hz _ zm_33) (fun _ h9 => h9) rfl dC_deliver_26 ?_
  refine lv_aload_n hx hb dC_deliver_29 rfl (lv_at hl 0 rfl) ?_
  refine va_get (D := G.1) (ci := 0) (v := .int (nI mg.rcv)) (C := RM) (T := TM) (N := 6) hx hb hz iM hown hK (hH.one hq1) 0 rfl rfl 2 (by decide) (hz _ zm_288) (fun _ h9 => h9) rfl dC_deliver_30 ?_
  refine zw_zald hx hb hK hH 2 hdn rfl (mg.rcv) rfl (hmo.2.1) (by omega) dC_deliver_33 ?_
  refine zw_ti (show nI ((zdrop st j).dn mg.rcv).toNat = nI (st.dn mg.rcv).toNat from rfl) ?_
  obtain ⟨htk, hcL, f, hch, hfk⟩ := hcp hk
  have hm3 := hmo.2.2
  rw [hk] at hm3
  have hcz := hlt0 ch _ hch
  have hch1 : M1 ch = _ := (hk1 ch (by omega) (by omega)).trans hch
  have hD : zdeliver st j mg mb = mg.chs.foldl (zta mg.rcv) (zdrop st j, 0) := by unfold zdeliver; rw [if_neg (by rw [hd]; decide), hk]
  rw [hD]
  refine zc_eq0 (tgt := 49) hx hb dC_deliver_34 (by decide) (by omega) (fun b1 => ?_) (fun b1 => ?_)
  · refine lv_aload_n hx hb dC_deliver_49 rfl (lv_at hl 0 rfl) ?_
    refine zr_V (As := []) (rest := []) (q := (RM, TM, 6)) ⟨hx, hb, hml, hown, hz⟩ (kM_isClock_no l G B M1 q _ _ _ _ told ch hq1 htk) (zt_V zm_320 zm_321 zm_322 zm_10 zm_323) rfl rfl rfl (show _ ∧ _ ∧ _ ∧ _ = some 0 from by decide +kernel) ⟨Nat.le_of_ble_eq_true rfl, Nat.le_of_ble_eq_true rfl⟩ zE_blind (zE_at hE hS) hH hK hq1 rfl rfl hl.1 rfl (Nat.le_of_ble_eq_true rfl) dC_deliver_50 ⟨Nat.le_of_ble_eq_true rfl, Nat.le_of_ble_eq_true rfl⟩ ?_
    refine zc_eq0 (tgt := 64) hx hb dC_deliver_53 (by decide) (by omega) (fun b2 => ?_) (fun b2 => ?_)
    · refine lv_aload_n hx hb dC_deliver_64 rfl (lv_at hl 1 rfl) ?_
      refine lv_aload_n hx hb dC_deliver_65 rfl (lv_at hl 0 rfl) ?_
      rw [htk] at hq1
      refine zr_Vi (As := [.ref q]) (rest := []) (q := (RC, TC, 14)) (mc := 0) (ms := 0) ⟨hx, hb, hml, hown, hz⟩ (kC_takeChanges l G B M1 _ x z L n mb (zdrop st j) _ g hn hR1 hok1 q ch mg.rcv (nI mg.num) (nI mg.snd) (nI mg.byt) hqL hq1 hmo.2.1 hcL mg.chs f hch1 hfk hm3.2.2.1 hm3.2.1) (zt_V zm_348 zm_350 zs_14 zm_1 zm_351) rfl rfl rfl (show _ ∧ _ ∧ _ ∧ _ = some 1 from by decide +kernel) ⟨Nat.le_of_ble_eq_true rfl, Nat.le_of_ble_eq_true rfl⟩ zE_blind (zE_at hE hS) hH hK hx0 rfl rfl hS hl.1 rfl (Nat.le_of_ble_eq_true rfl) dC_deliver_66 ⟨Nat.le_of_ble_eq_true rfl, Nat.le_of_ble_eq_true rfl⟩ (fun r2 M2 sz2 H2 L2 hp hH hz1 hz2 hS => ?_)
      obtain ⟨rfl, hR2, hfr2, hz4⟩ := hp
      rw [hsz] at hfr2
      refine W.widen (k := 960) (n := 3360) (by omega) (by omega) ?_
      exact W.iret (v := (nI (mg.chs.foldl (zta mg.rcv) (zdrop st j, 0)).2)) hx hb hr (fun t ht hW => ⟨⟨(nI (mg.chs.foldl (zta mg.rcv) (zdrop st j, 0)).2), (M2, H2.size), rfl, ⟨rfl, hR2, fun a h1 h2 h3 => (hfr2 a h1 h2 h3).trans (hk1 a h1 (by omega)), by show sz ≤ H2.size; omega⟩, by rw [ht]; exact hH, by rw [ht]⟩, hS.F ht⟩) hS.2.2 dC_deliver_69
    · exact absurd rfl b2
  · exact absurd (by rw [hd]; rfl) b1

theorem kC_deliver (l : Launch) (G : zG) (B : Nat) (M : zw_M) (sz : Nat) (x z L n mb : Nat) (st : zSt) (qs : List Nat) (g : Nat → Int32) (hn : n ≤ 8) (hR : zCR G M x z L n mb st qs g) (hL : L < sz) (hok : zOK n st) (hmb : mb ≤ 2000) (j : Nat) (mg : zMg) (hj : j < st.fl.length) (hmg : st.fl[j]? = some mg) : Met l yC_deliver (Cond.code yC_deliver bC_deliver 3 (some .int) :: zT) { frames := 4, cells := 960, slots := 3360, locals := 140 } (zq G B M sz [.ref x, .int (nI j)]) (va_Qi (fun (r : Int32) (u : zw_M × Nat) => r = nI (zdeliver st j mg mb).2 ∧ zCO G x z L n mb sz M ((zdeliver st j mg mb).1) u) (zr_o G.1 zCl B) (zw_A B)) (960) (3360) (zw_A B) := by
  cases hd : st.dn mg.rcv with
  | true => exact kC_deliver_down l G B M sz x z L n mb st qs g hn hR hL hok hmb j mg hj hmg hd
  | false =>
    cases hk : mg.ck with
    | some k => exact kC_deliver_clock l G B M sz x z L n mb st qs g hn hR hL hok hmb j mg hj hmg hd k hk
    | none => exact kC_deliver_part l G B M sz x z L n mb st qs g hn hR hL hok hmb j mg hj hmg hd hk
set_option maxHeartbeats 4000000 in
set_option maxRecDepth 100000 in
theorem kC_make (l : Launch) (G : zG) (B : Nat) (M : zw_M) (sz : Nat) (x z L n mb : Nat) (st : zSt) (qs : List Nat) (g : Nat → Int32) (hn : n ≤ 8) (hR : zCR G M x z L n mb st qs g) (hok : zOK n st) (j wg : Nat) (hj : j < n) (hw1 : 1 ≤ wg) (hw4 : wg ≤ 400) (hd : st.dn j = false) (h60 : (st.wt j).length < 60) : Met l yC_make (Cond.code yC_make bC_make 5 (some .int) :: zT) { frames := 2, cells := 0, slots := 0, locals := 50 } (zq G B M sz [.ref x, .int (nI j), .int (nI wg)]) (va_Qi (fun (r : Int32) (u : zw_M × Nat) => r = nI ((st.wt j).length + 1) ∧ zCO G x z L n mb sz M (zmake st j wg) u) (zr_o G.1 zCl B) (zw_A B)) (0) (0) (zw_A B) := by
  refine Met.ofW (cc := bC_make) (maxL := 5) (ret := (some .int)) (by decide) rfl ?_
  intro p e s m args below meth c s₁ B0 hml hv
  obtain ⟨rfl, hE, hH, hsz⟩ := hv
  have hx := B0.exec
  have hb := B0.bytes
  have hr := B0.returns
  have hlocks := B0.notSynchronized
  have hz : ∀ w ∈ zT, w.before _ s = true := fun w h => atoms_spec (ws := Cond.code yC_make bC_make 5 (some .int) :: zT) B0.pre w (List.mem_cons_of_mem _ h)
  have hown : s.vm.findClass RC = some m.cls := findClass_of_methodNamed B0.named
  have hK := hE.1
  have hl := lv_entry ([.ref x, .int (nI j), .int (nI wg)]) (n := 5) (Nat.le_of_ble_eq_true rfl)
  rw [lg_entry_eq]
  generalize (lg_sl ([.ref x, .int (nI j), .int (nI wg)]) ++ List.replicate (5 - (lg_sl ([.ref x, .int (nI j), .int (nI wg)])).length) Slot.unset).toArray = ls at hl ⊢
  have hl : lv_has ls 5 [(0, .ref x), (1, .int (nI j)), (2, .int (nI wg))] := hl
  have hS : va_S (zw_A B) s.heap s.heap [] := va_S.rf
  have hin : meth.name = "make" := (name_of_methodNamed B0.named B0.method).1
  have hb1 := zbool (st.dn j)
  have hzc : zb (zck (st.lg j)) j = (st.wt j).length := (zck_at (hok.b8 hj) (by omega)).trans (hok.2.2.1 _ hj).1
  have hwr := hR.wt j hj
  have hx0 := hR.obj
  have hdn := hR.dn
  have hck := hR.ck
  have hwts := hR.wts
  have hxz := hR.xz
  have hzL := hR.zL
  refine lv_aload_n hx hb dC_make_0 rfl (lv_at hl 0 rfl) ?_
  refine lv_iload_n hx hb dC_make_1 rfl (lv_at hl 1 rfl) ?_
  refine zr_V (As := [.int (nI j)]) (rest := []) (q := (RC, TC, 14)) ⟨hx, hb, hml, hown, hz⟩ (kC_isReplica_in l G B M x n mb z st.fl.length st.se st.lo st.go st.pa hn hx0 j hj) (zt_V zm_93 zm_95 zs_2 zm_1 zm_96) rfl rfl rfl (show _ ∧ _ ∧ _ ∧ _ = some 1 from by decide +kernel) ⟨Nat.le_of_ble_eq_true rfl, Nat.le_of_ble_eq_true rfl⟩ zE_blind (zE_at hE hS) hH hK hx0 rfl rfl hl.1 rfl (Nat.le_of_ble_eq_true rfl) dC_make_2 ⟨Nat.le_of_ble_eq_true rfl, Nat.le_of_ble_eq_true rfl⟩ ?_
  refine zc_ne0 (tgt := 18) hx hb dC_make_5 (by decide) (by omega) (fun b1 => ?_) (fun b1 => ?_)
  · refine lv_iload_n hx hb dC_make_18 rfl (lv_at hl 2 rfl) ?_
    refine lv_iconst (v := nI 1) hx hb dC_make_19 (by decide) ?_
    refine zc_lt (tgt := 30) hx hb dC_make_20 (by decide) (by omega) (by decide) (fun b2 => ?_) (fun b2 => ?_)
    · exact absurd b2 (by omega)
    · refine lv_iload_n hx hb dC_make_23 rfl (lv_at hl 2 rfl) ?_
      refine lv_sipush (v := nI 400) hx hb dC_make_24 (by decide) ?_
      refine zc_le (tgt := 40) hx hb dC_make_27 (by decide) (by omega) (by decide) (fun b3 => ?_) (fun b3 => ?_)
      · refine lv_aload_n hx hb dC_make_40 rfl (lv_at hl 0 rfl) ?_
        refine lv_iload_n hx hb dC_make_41 rfl (lv_at hl 1 rfl) ?_
        refine zr_V (As := [.int (nI j)]) (rest := []) (q := (RC, TC, 14)) ⟨hx, hb, hml, hown, hz⟩ (kC_madeBy l G B M x n mb z st.fl.length st.se st.lo st.go st.pa hn hx0 (fun a9 => zck (st.lg a9)) hck j hj) (zt_V zm_114 zm_116 zs_3 zm_1 zm_117) rfl rfl rfl (show _ ∧ _ ∧ _ ∧ _ = some 1 from by decide +kernel) ⟨Nat.le_of_ble_eq_true rfl, Nat.le_of_ble_eq_true rfl⟩ zE_blind (zE_at hE hS) hH hK hx0 rfl rfl hl.1 rfl (Nat.le_of_ble_eq_true rfl) dC_make_42 ⟨Nat.le_of_ble_eq_true rfl, Nat.le_of_ble_eq_true rfl⟩ ?_
        refine zw_ti (congrArg nI hzc) ?_
        refine lv_istore_n (lv' := [(3, .int (nI ((st.wt j).length))), (0, .ref x), (1, .int (nI j)), (2, .int (nI wg))]) hx hb dC_make_45 rfl hl (by decide) rfl (fun ls hl => ?_)
        refine lv_aload_n hx hb dC_make_46 rfl (lv_at hl 1 rfl) ?_
        refine va_get (D := G.1) (ci := 1) (v := .ref z) (C := RC) (T := TC) (N := 14) hx hb hz iC hown hK (hH.one hx0) 0 rfl rfl 2 (by decide) (hz _ zm_33) (fun _ h9 => h9) rfl dC_make_47 ?_
        refine lv_iload_n hx hb dC_make_50 rfl (lv_at hl 2 rfl) ?_
        refine zw_zald hx hb hK hH 2 hdn rfl (j) rfl (hj) (by omega) dC_make_51 ?_
        refine zc_ne0 (tgt := 61) hx hb dC_make_52 (by decide) (by omega) (fun b4 => ?_) (fun b4 => ?_)
        · exact absurd (by rw [hd]; rfl) b4
        · refine lv_iload_n hx hb dC_make_55 rfl (lv_at hl 0 rfl) ?_
          refine lv_bipush (v := nI 60) hx hb dC_make_56 (by decide) ?_
          refine zc_lt (tgt := 71) hx hb dC_make_58 (by decide) (by omega) (by decide) (fun b5 => ?_) (fun b5 => ?_)
          · refine lv_iload_n hx hb dC_make_71 rfl (lv_at hl 0 rfl) ?_
            refine lv_iconst (v := nI 1) hx hb dC_make_72 (by decide) ?_
            refine lv_iadd hx hb dC_make_73 ?_
            refine zw_ti (nI_add _ _) ?_
            refine lv_istore (lv' := [(4, .int (nI (((st.wt j).length) + 1))), (3, .int (nI ((st.wt j).length))), (0, .ref x), (1, .int (nI j)), (2, .int (nI wg))]) hx hb dC_make_74 hl (by decide) rfl (fun ls hl => ?_)
            refine lv_aload_n hx hb dC_make_76 rfl (lv_at hl 2 rfl) ?_
            refine va_get (D := G.1) (ci := 1) (v := .ref (z + 4 + n)) (C := RC) (T := TC) (N := 14) hx hb hz iC hown hK (hH.one hx0) 0 rfl rfl 6 (by decide) (hz _ zm_37) (fun _ h9 => h9) rfl dC_make_77 ?_
            refine lv_iload_n hx hb dC_make_80 rfl (lv_at hl 3 rfl) ?_
            refine zw_aald hx hb hK hH 4 hwts rfl rfl (j) rfl (hj) (by omega) (v := .ref (z + 5 + n + j)) rfl dC_make_81 ?_
            refine lv_iload_n hx hb dC_make_82 rfl (lv_at hl 1 rfl) ?_
            refine lv_iload_n hx hb dC_make_83 rfl (lv_at hl 4 rfl) ?_
            refine zw_iast hx hb hK hH hS 0 hwr rfl ((st.wt j).length) rfl (by omega) (by decide) dC_make_84 (fun H1 L1 hH hz1 hS => ?_)
            have hsz : H1.size = sz := hz1.trans hsz
            obtain ⟨M1, hM1⟩ : ∃ Mq, Mq = zw_u M (z + 5 + n + j) (.inl (G.2.1 0, 60, .inl (upd (fun k => nI ((st.wt j).getD k 0)) ((st.wt j).length) (nI wg)))) := ⟨_, rfl⟩
            have hH : zw_H G.1 zCl B M1 H1 := by rw [hM1]; exact hH
            have hx0 : M1 x = some (.inr (1, zoC n mb z st.fl.length st.se st.lo st.go st.pa)) := by rw [hM1, zw_un _ _ (by omega)]; exact hx0
            have hdn : M1 z = some (.inl (G.2.1 2, n, .inl (fun a9 => nI (st.dn a9).toNat))) := by rw [hM1, zw_un _ _ (by omega)]; exact hdn
            have hck : M1 (z + 1) = some (.inl (G.2.1 1, n, .inr (.inl (fun a9 => zck (st.lg a9))))) := by rw [hM1, zw_un _ _ (by omega)]; exact hck
            have hwts : M1 (z + 4 + n) = some (.inl (G.2.1 4, n, .inr (.inr (.inr (.inr (fun a9 => some (z + 5 + n + a9))))))) := by rw [hM1, zw_un _ _ (by omega)]; exact hwts
            have hwr : M1 (z + 5 + n + j) = some (.inl (G.2.1 0, 60, .inl (upd (fun k => nI ((st.wt j).getD k 0)) ((st.wt j).length) (nI wg)))) := by rw [hM1]; exact zw_us _ _ _
            refine lv_aload_n hx hb dC_make_85 rfl (lv_at hl 2 rfl) ?_
            refine lv_iload_n hx hb dC_make_86 rfl (lv_at hl 3 rfl) ?_
            refine lv_iload_n hx hb dC_make_87 rfl (lv_at hl 3 rfl) ?_
            refine lv_bipush (v := nI 8) hx hb dC_make_88 (by decide) ?_
            refine lv_iload hx hb dC_make_90 (lv_at hl 0 rfl) ?_
            refine lv_imul hx hb dC_make_92 ?_
            refine zw_ti (pk_mul _ _) ?_
            refine lv_iadd hx hb dC_make_93 ?_
            refine zw_ti (nI_add _ _) ?_
            have hk1 : ∀ a : Nat, a ≠ z + 5 + n + j → M1 a = M a := fun a h1 => by rw [hM1, zw_un _ _ h1]
            have hR1 : zCR G M1 x z L n mb (zSt.mk st.dn st.lg (fun i => if i = j then st.wt j ++ [wg] else st.wt i) st.fl st.se st.lo st.go st.pa) qs g := hR.wtd hj (fun a e h1 h2 => (hk1 a h1).trans h2) hwr
            have hm8 : (j + 8 * ((st.wt j).length + 1)) % 8 = j := by omega
            have hd8 : (j + 8 * ((st.wt j).length + 1)) / 8 = (st.wt j).length + 1 := by omega
            have hfit : zfits (zSt.mk st.dn st.lg (fun i => if i = j then st.wt j ++ [wg] else st.wt i) st.fl st.se st.lo st.go st.pa) j (j + 8 * ((st.wt j).length + 1)) := by show _ = zcnt _ (st.lg j) + 1; rw [hm8, hd8, (hok.2.2.1 _ hj).1]
            have hl60 : (st.lg j).length < n * 60 := by rw [zlen (n := n) _ (fun c hc => (hok.1 j hj c hc).1)]; exact zsum_lt (a := j) (fun i hi => hok.cnt60 hj hi) hj (by rw [(hok.2.2.1 _ hj).1]; omega)
            refine zr_Vi (As := [.int (nI j), .int (nI (j + (8 * (((st.wt j).length) + 1))))]) (rest := []) (q := (RC, TC, 14)) (mc := 0) (ms := 0) ⟨hx, hb, hml, hown, hz⟩ (kC_comes_yes l G B M1 _ x z L n mb (zSt.mk st.dn st.lg (fun i => if i = j then st.wt j ++ [wg] else st.wt i) st.fl st.se st.lo st.go st.pa) qs g hn hR1 j (j + 8 * ((st.wt j).length + 1)) hj (by omega) (hok.b8 hj) hfit hl60) (zt_V zm_250 zm_252 zs_8 zm_1 zm_253) rfl rfl rfl (show _ ∧ _ ∧ _ ∧ _ = some 2 from by decide +kernel) ⟨Nat.le_of_ble_eq_true rfl, Nat.le_of_ble_eq_true rfl⟩ zE_blind (zE_at hE hS) hH hK hx0 rfl rfl hS hl.1 rfl (Nat.le_of_ble_eq_true rfl) dC_make_94 ⟨Nat.le_of_ble_eq_true rfl, Nat.le_of_ble_eq_true rfl⟩ (fun r2 M2 sz2 H2 L2 hp hH hz1 hz2 hS => ?_)
            obtain ⟨rfl, hR2, hk2, hz3⟩ := hp
            have hk2 : ∀ a : Nat, a ≠ z + 3 + j → a ≠ z + 3 + n → a ≠ z + 1 → M2 a = M1 a := hk2
            have hsz : H2.size = sz := hz1.trans (hz3.trans hsz)
            refine lv_pop hx hb dC_make_97 rfl ?_
            refine lv_iload hx hb dC_make_98 (lv_at hl 0 rfl) ?_
            exact W.iret (v := (nI (((st.wt j).length) + 1))) hx hb hr (fun t ht hW => ⟨⟨(nI (((st.wt j).length) + 1)), (M2, sz), rfl, ⟨rfl, ⟨qs, g, hR2⟩, fun a h1 h2 h3 => (hk2 a (by omega) (by omega) (by omega)).trans (hk1 a (by omega)), Nat.le_refl _⟩, by rw [ht]; exact hH, by rw [ht]; exact hsz⟩, hS.F ht⟩) hS.2.2 dC_make_100
          · exact absurd b5 (by omega)
      · exact absurd b3 (by omega)
  · exact absurd b1 (by decide)

