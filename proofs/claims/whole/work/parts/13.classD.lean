/-! THE CLASS: what writes, over the state -/
set_option maxHeartbeats 4000000 in
set_option maxRecDepth 100000 in
theorem kC_takeOut (l : Launch) (G : zG) (B : Nat) (M : zw_M) (sz : Nat) (x z L n mb : Nat) (st : zSt) (qs : List Nat) (g : Nat → Int32) (hn : n ≤ 8) (hR : zCR G M x z L n mb st qs g) (hfl0 : st.fl.length ≤ 120) (j : Nat) (hj : j < st.fl.length) : Met l yC_takeOutOfFlight (Cond.code yC_takeOutOfFlight bC_takeOutOfFlight 3 none :: zT) { frames := 0, cells := 0, slots := 0, locals := 0 } (zq G B M sz [.ref x, .int (nI j)]) (va_Qv (fun (u : zw_M × Nat) => zCR G u.1 x z L n mb (zdrop st j) (qs.eraseIdx j) g ∧ (∀ a : Nat, a ≠ x → a ≠ z + 5 + 2 * n → u.1 a = M a) ∧ u.2 = sz) (zr_o G.1 zCl B) (zw_A B)) (0) (0) (zw_A B) := by
  refine Met.ofW (cc := bC_takeOutOfFlight) (maxL := 3) (ret := none) (by decide) rfl ?_
  intro p e s m args below meth c s₁ B0 hml hv
  obtain ⟨rfl, hE, hH, hsz⟩ := hv
  have hx := B0.exec
  have hb := B0.bytes
  have hr := B0.returns
  have hlocks := B0.notSynchronized
  have hz : ∀ w ∈ zT, w.before _ s = true := fun w h => atoms_spec (ws := Cond.code yC_takeOutOfFlight bC_takeOutOfFlight 3 none :: zT) B0.pre w (List.mem_cons_of_mem _ h)
  have hown : s.vm.findClass RC = some m.cls := findClass_of_methodNamed B0.named
  have hK := hE.1
  have hl := lv_entry ([.ref x, .int (nI j)]) (n := 3) (Nat.le_of_ble_eq_true rfl)
  rw [lg_entry_eq]
  generalize (lg_sl ([.ref x, .int (nI j)]) ++ List.replicate (3 - (lg_sl ([.ref x, .int (nI j)])).length) Slot.unset).toArray = ls at hl ⊢
  have hl : lv_has ls 3 [(0, .ref x), (1, .int (nI j))] := hl
  have hS : va_S (zw_A B) s.heap s.heap [] := va_S.rf
  have hin : meth.name = "takeOutOfFlight" := (name_of_methodNamed B0.named B0.method).1
  have hnl : qs.length = st.fl.length := hR.len
  have hx0 := hR.obj
  have hfl := hR.fl
  have hxz := hR.xz
  have hzL := hR.zL
  refine lv_iload_n hx hb dC_takeOutOfFlight_0 rfl (lv_at hl 1 rfl) ?_
  refine lv_iconst (v := nI 1) hx hb dC_takeOutOfFlight_1 (by decide) ?_
  refine lv_iadd hx hb dC_takeOutOfFlight_2 ?_
  refine zw_ti (nI_add _ _) ?_
  refine lv_istore_n (lv' := [(2, .int (nI (j + 1))), (0, .ref x), (1, .int (nI j))]) hx hb dC_takeOutOfFlight_3 rfl hl (by decide) rfl (fun ls hl => ?_)
  refine zl_upH (Wg := fun ls H locs => W p l e _ s m _ below meth c H locs 0 0 _ (F0 m 4 ls [])) (fun i ls H locs => lv_has ls 3 [(0, .ref x), (1, .int (nI j)), (2, .int (nI i))] ∧ ∃ Mq : zw_M, zw_H G.1 zCl B Mq H ∧ va_S (zw_A B) s.heap H locs ∧ j + 1 ≤ i ∧ Mq = zw_u M (z + 5 + 2 * n) (.inl (G.2.1 3, 120, .inr (.inr (.inr (.inr (zfk qs j i)))))) ∧ H.size = sz) st.fl.length ?_ (i := (j + 1)) (by omega) ⟨lv_sub hl [1, 2, 0] rfl, M, hH, hS, ⟨Nat.le_refl _, by rw [zfk_0, zw_ui hfl], hsz⟩⟩
  intro i hi ls Hi Li ⟨hl, Mi, hH, hS, hI⟩ ih
  have hl : lv_has ls 3 [(0, .ref x), (1, .int (nI j)), (2, .int (nI i))] := hl
  obtain ⟨hji, hMi, hsz⟩ := hI
  have hx0 : Mi x = some (.inr (1, zoC n mb z st.fl.length st.se st.lo st.go st.pa)) := by rw [hMi, zw_un _ _ (by omega)]; exact hR.obj
  have hfl : Mi (z + 5 + 2 * n) = some (.inl (G.2.1 3, 120, .inr (.inr (.inr (.inr (zfk qs j i)))))) := by rw [hMi]; exact zw_us _ _ _
  refine lv_iload_n hx hb dC_takeOutOfFlight_4 rfl (lv_at hl 2 rfl) ?_
  refine lv_aload_n hx hb dC_takeOutOfFlight_5 rfl (lv_at hl 0 rfl) ?_
  refine va_get (D := G.1) (ci := 1) (v := .int (nI st.fl.length)) (C := RC) (T := TC) (N := 14) hx hb hz iC hown hK (hH.one hx0) 0 rfl rfl 8 (by decide) (hz _ zm_39) (fun _ h9 => h9) rfl dC_takeOutOfFlight_6 ?_
  refine zc_ge (tgt := 32) hx hb dC_takeOutOfFlight_9 (by decide) (by omega) (by omega) (fun c => ?_) (fun c => ?_)
  · have e1 : i = qs.length := by omega
    refine lv_aload_n hx hb dC_takeOutOfFlight_32 rfl (lv_at hl 0 rfl) ?_
    refine va_get (D := G.1) (ci := 1) (v := .int (nI st.fl.length)) (C := RC) (T := TC) (N := 14) hx hb hz iC hown hK (hH.one hx0) 0 rfl rfl 8 (by decide) (hz _ zm_39) (fun _ h9 => h9) rfl dC_takeOutOfFlight_33 ?_
    refine zc_le0 (tgt := 59) hx hb dC_takeOutOfFlight_36 (by decide) (by omega) (fun c2 => ?_) (fun c2 => ?_)
    · exact absurd c2 (by omega)
    · refine lv_aload_n hx hb dC_takeOutOfFlight_39 rfl (lv_at hl 0 rfl) ?_
      refine lv_dup hx hb dC_takeOutOfFlight_40 rfl ?_
      refine va_get (D := G.1) (ci := 1) (v := .int (nI st.fl.length)) (C := RC) (T := TC) (N := 14) hx hb hz iC hown hK (hH.one hx0) 0 rfl rfl 8 (by decide) (hz _ zm_39) (fun _ h9 => h9) rfl dC_takeOutOfFlight_41 ?_
      refine lv_iconst (v := nI 1) hx hb dC_takeOutOfFlight_44 (by decide) ?_
      refine lv_isub hx hb dC_takeOutOfFlight_45 ?_
      refine zw_ti (pk_sub (by omega)) ?_
      refine zw_put (D := G.1) (ci := 1) (v := .int (nI (st.fl.length - 1))) (ty := .int) (C := RC) (T := TC) (N := 14) hx hb hz iC tC tC_ok nC hown hK hH hS hx0 rfl 8 (by decide) (hz _ zm_39) (fun _ h9 => h9) rfl (by decide +kernel) rfl rfl (Nat.le_of_ble_eq_true rfl) dC_takeOutOfFlight_46 (fun H1 L1 hH hz1 hS => ?_)
      have hsz : H1.size = sz := hz1.trans hsz
      obtain ⟨M1, hM1⟩ : ∃ Mq, Mq = zw_u Mi x (.inr (1, zoC n mb z (st.fl.length - 1) st.se st.lo st.go st.pa)) := ⟨_, rfl⟩
      have hH : zw_H G.1 zCl B M1 H1 := by rw [hM1]; exact hH
      have hfl : M1 (z + 5 + 2 * n) = some (.inl (G.2.1 3, 120, .inr (.inr (.inr (.inr (zfk qs j i)))))) := by rw [hM1, zw_un _ _ (by omega)]; exact hfl
      have hx0 : M1 x = some (.inr (1, zoC n mb z (st.fl.length - 1) st.se st.lo st.go st.pa)) := by rw [hM1]; exact zw_us _ _ _
      refine lv_aload_n hx hb dC_takeOutOfFlight_49 rfl (lv_at hl 0 rfl) ?_
      refine va_get (D := G.1) (ci := 1) (v := .ref (z + 5 + 2 * n)) (C := RC) (T := TC) (N := 14) hx hb hz iC hown hK (hH.one hx0) 0 rfl rfl 7 (by decide) (hz _ zm_38) (fun _ h9 => h9) rfl dC_takeOutOfFlight_50 ?_
      refine lv_aload_n hx hb dC_takeOutOfFlight_53 rfl (lv_at hl 0 rfl) ?_
      refine va_get (D := G.1) (ci := 1) (v := .int (nI (st.fl.length - 1))) (C := RC) (T := TC) (N := 14) hx hb hz iC hown hK (hH.one hx0) 0 rfl rfl 8 (by decide) (hz _ zm_39) (fun _ h9 => h9) rfl dC_takeOutOfFlight_54 ?_
      refine lv_null hx hb dC_takeOutOfFlight_57 ?_
      refine zw_aastN hx hb hK hH hS 3 hfl rfl (st.fl.length - 1) rfl (by omega) (by decide) dC_takeOutOfFlight_58 (fun H2 L2 hH hz1 hS => ?_)
      have hsz : H2.size = sz := hz1.trans hsz
      obtain ⟨M2, hM2⟩ : ∃ Mq, Mq = zw_u M1 (z + 5 + 2 * n) (.inl (G.2.1 3, 120, .inr (.inr (.inr (.inr (va_up (zfk qs j i) (st.fl.length - 1) none)))))) := ⟨_, rfl⟩
      have hH : zw_H G.1 zCl B M2 H2 := by rw [hM2]; exact hH
      have hx0 : M2 x = some (.inr (1, zoC n mb z (st.fl.length - 1) st.se st.lo st.go st.pa)) := by rw [hM2, zw_un _ _ (by omega)]; exact hx0
      have hfl : M2 (z + 5 + 2 * n) = some (.inl (G.2.1 3, 120, .inr (.inr (.inr (.inr (va_up (zfk qs j i) (st.fl.length - 1) none)))))) := by rw [hM2]; exact zw_us _ _ _
      have hf2 : M2 (z + 5 + 2 * n) = some (.inl (G.2.1 3, 120, .inr (.inr (.inr (.inr (fun i => (qs.eraseIdx j)[i]?)))))) := by rw [e1, hnl] at hfl; rw [← zfk_e qs (by omega), hnl]; exact hfl
      have hk : ∀ a : Nat, a ≠ x → a ≠ z + 5 + 2 * n → M2 a = M a := fun a h1 h2 => by rw [hM2, zw_un _ _ h2, hM1, zw_un _ _ h1, hMi, zw_un _ _ h2]
      have hl2 : (zdrop st j).fl.length = st.fl.length - 1 := by show (st.fl.eraseIdx j).length = _; rw [List.length_eraseIdx, if_pos hj]
      exact W.vret hx hb hr (fun t ht hW => ⟨⟨(M2, sz), rfl, ⟨hR.rem rfl rfl rfl rfl (by rw [hl2]; exact hx0) hf2 (fun a e h1 h2 h3 => (hk a h1 h2).trans h3), hk, rfl⟩, by rw [ht]; exact hH, by rw [ht]; exact hsz⟩, hS.F ht⟩) hS.2.2 dC_takeOutOfFlight_59
  · obtain ⟨q, mg, hq, -, hmg⟩ := hR.at c
    obtain ⟨hqL, fs, hq0⟩ := hmg.ex
    have hq0 : Mi q = some (.inr (0, fs)) := by rw [hMi, zw_un _ _ (by omega)]; exact hq0
    refine lv_aload_n hx hb dC_takeOutOfFlight_12 rfl (lv_at hl 0 rfl) ?_
    refine va_get (D := G.1) (ci := 1) (v := .ref (z + 5 + 2 * n)) (C := RC) (T := TC) (N := 14) hx hb hz iC hown hK (hH.one hx0) 0 rfl rfl 7 (by decide) (hz _ zm_38) (fun _ h9 => h9) rfl dC_takeOutOfFlight_13 ?_
    refine lv_iload_n hx hb dC_takeOutOfFlight_16 rfl (lv_at hl 2 rfl) ?_
    refine lv_iconst (v := nI 1) hx hb dC_takeOutOfFlight_17 (by decide) ?_
    refine lv_isub hx hb dC_takeOutOfFlight_18 ?_
    refine zw_ti (pk_sub (by omega)) ?_
    refine lv_aload_n hx hb dC_takeOutOfFlight_19 rfl (lv_at hl 0 rfl) ?_
    refine va_get (D := G.1) (ci := 1) (v := .ref (z + 5 + 2 * n)) (C := RC) (T := TC) (N := 14) hx hb hz iC hown hK (hH.one hx0) 0 rfl rfl 7 (by decide) (hz _ zm_38) (fun _ h9 => h9) rfl dC_takeOutOfFlight_20 ?_
    refine lv_iload_n hx hb dC_takeOutOfFlight_23 rfl (lv_at hl 2 rfl) ?_
    refine zw_aald hx hb hK hH 3 hfl rfl rfl (i) rfl (by omega) (by decide) (v := .ref q) (by show va_rf (if i < j then _ else if i + 1 < i then _ else _) = _; rw [if_neg (by omega), if_neg (by omega), hq]; rfl) dC_takeOutOfFlight_24 ?_
    refine zw_aast hx hb hK hH hS 3 0 hfl (r := (RM, TM, 6)) rfl hq0 rfl (i - 1) rfl (by omega) (by decide) dC_takeOutOfFlight_25 (fun H1 L1 hH hz1 hS => ?_)
    have hsz : H1.size = sz := hz1.trans hsz
    obtain ⟨M1, hM1⟩ : ∃ Mq, Mq = zw_u Mi (z + 5 + 2 * n) (.inl (G.2.1 3, 120, .inr (.inr (.inr (.inr (va_up (zfk qs j i) (i - 1) (some q))))))) := ⟨_, rfl⟩
    have hH : zw_H G.1 zCl B M1 H1 := by rw [hM1]; exact hH
    have hx0 : M1 x = some (.inr (1, zoC n mb z st.fl.length st.se st.lo st.go st.pa)) := by rw [hM1, zw_un _ _ (by omega)]; exact hx0
    have hfl : M1 (z + 5 + 2 * n) = some (.inl (G.2.1 3, 120, .inr (.inr (.inr (.inr (va_up (zfk qs j i) (i - 1) (some q))))))) := by rw [hM1]; exact zw_us _ _ _
    refine lv_iinc (v := (nI (i + 1))) (lv' := [(2, .int (nI (i + 1))), (0, .ref x), (1, .int (nI j))]) hx hb dC_takeOutOfFlight_26 hl (k := 2) rfl (nI_add _ _) (by decide) rfl (fun ls hl => ?_)
    refine lv_goto (tgt := 4) hx hb dC_takeOutOfFlight_29 (by decide) ?_
    exact ih c ls H1 _ ⟨lv_sub hl [1, 2, 0] rfl, M1, hH, hS, ⟨by omega, by rw [hM1, hMi, zw_uu, zfk_s qs (by omega) hq], hsz⟩⟩

set_option maxHeartbeats 4000000 in
set_option maxRecDepth 100000 in
theorem kC_comes_yes (l : Launch) (G : zG) (B : Nat) (M : zw_M) (sz : Nat) (x z L n mb : Nat) (st : zSt) (qs : List Nat) (g : Nat → Int32) (hn : n ≤ 8) (hR : zCR G M x z L n mb st qs g) (j k0 : Nat) (hj : j < n) (hcc : k0 < 2 ^ 31) (hb8 : ∀ b, b < 8 → zcnt b (st.lg j) < 256) (hfit : zfits st j k0) (hlen : (st.lg j).length < n * 60) : Met l yC_comesToLog (Cond.code yC_comesToLog bC_comesToLog 5 (some .boolean) :: zT) { frames := 1, cells := 0, slots := 0, locals := 22 } (zq G B M sz [.ref x, .int (nI j), .int (nI k0)]) (va_Qi (fun (r : Int32) (u : zw_M × Nat) => r = nI 1 ∧ zCR G u.1 x z L n mb (zlog st j k0) qs g ∧ (∀ a : Nat, a ≠ z + 3 + j → a ≠ z + 3 + n → a ≠ z + 1 → u.1 a = M a) ∧ u.2 = sz) (zr_o G.1 zCl B) (zw_A B)) (0) (0) (zw_A B) := by
  refine Met.ofW (cc := bC_comesToLog) (maxL := 5) (ret := (some .boolean)) (by decide) rfl ?_
  intro p e s m args below meth c s₁ B0 hml hv
  obtain ⟨rfl, hE, hH, hsz⟩ := hv
  have hx := B0.exec
  have hb := B0.bytes
  have hr := B0.returns
  have hlocks := B0.notSynchronized
  have hz : ∀ w ∈ zT, w.before _ s = true := fun w h => atoms_spec (ws := Cond.code yC_comesToLog bC_comesToLog 5 (some .boolean) :: zT) B0.pre w (List.mem_cons_of_mem _ h)
  have hown : s.vm.findClass RC = some m.cls := findClass_of_methodNamed B0.named
  have hK := hE.1
  have hl := lv_entry ([.ref x, .int (nI j), .int (nI k0)]) (n := 5) (Nat.le_of_ble_eq_true rfl)
  rw [lg_entry_eq]
  generalize (lg_sl ([.ref x, .int (nI j), .int (nI k0)]) ++ List.replicate (5 - (lg_sl ([.ref x, .int (nI j), .int (nI k0)])).length) Slot.unset).toArray = ls at hl ⊢
  have hl : lv_has ls 5 [(0, .ref x), (1, .int (nI j)), (2, .int (nI k0))] := hl
  have hS : va_S (zw_A B) s.heap s.heap [] := va_S.rf
  have hin : meth.name = "comesToLog" := (name_of_methodNamed B0.named B0.method).1
  have hc8 : k0 % 8 < 8 := Nat.mod_lt _ (by decide)
  have hzb := zck_at hb8 hc8
  have hzl := hb8 _ hc8
  have hlgr := hR.lg j hj
  have hx0 := hR.obj
  have hck := hR.ck
  have hlgs := hR.lgs
  have hlz := hR.lz
  have hxz := hR.xz
  have hzL := hR.zL
  refine lv_iload_n hx hb dC_comesToLog_0 rfl (lv_at hl 2 rfl) ?_
  refine zr_S (As := [.int (nI k0)]) (rest := []) ⟨hx, hb, hml, hown, hz⟩ (kC_actorOf l G B M k0 hcc) (zt_S zm_254 zm_255 zm_1 zm_256) rfl rfl rfl (show _ ∧ _ ∧ _ ∧ _ = some 1 from by decide +kernel) ⟨Nat.le_of_ble_eq_true rfl, Nat.le_of_ble_eq_true rfl⟩ zE_blind (zE_at hE hS) hH hl.1 rfl (Nat.le_of_ble_eq_true rfl) dC_comesToLog_1 ⟨Nat.le_of_ble_eq_true rfl, Nat.le_of_ble_eq_true rfl⟩ ?_
  refine lv_istore_n (lv' := [(3, .int (nI (k0 % 8))), (0, .ref x), (1, .int (nI j)), (2, .int (nI k0))]) hx hb dC_comesToLog_4 rfl hl (by decide) rfl (fun ls hl => ?_)
  refine lv_aload_n hx hb dC_comesToLog_5 rfl (lv_at hl 1 rfl) ?_
  refine va_get (D := G.1) (ci := 1) (v := .ref (z + 3 + n)) (C := RC) (T := TC) (N := 14) hx hb hz iC hown hK (hH.one hx0) 0 rfl rfl 5 (by decide) (hz _ zm_36) (fun _ h9 => h9) rfl dC_comesToLog_6 ?_
  refine lv_iload_n hx hb dC_comesToLog_9 rfl (lv_at hl 2 rfl) ?_
  refine zw_iald hx hb hK hH 0 hlz rfl (j) rfl (hj) (by omega) dC_comesToLog_10 ?_
  refine lv_istore (lv' := [(4, .int (nI ((st.lg j).length))), (3, .int (nI (k0 % 8))), (0, .ref x), (1, .int (nI j)), (2, .int (nI k0))]) hx hb dC_comesToLog_11 hl (by decide) rfl (fun ls hl => ?_)
  refine lv_iload_n hx hb dC_comesToLog_13 rfl (lv_at hl 4 rfl) ?_
  refine zr_S (As := [.int (nI k0)]) (rest := []) ⟨hx, hb, hml, hown, hz⟩ (kC_seqOf l G B M k0 hcc) (zt_S zm_257 zm_258 zm_1 zm_259) rfl rfl rfl (show _ ∧ _ ∧ _ ∧ _ = some 1 from by decide +kernel) ⟨Nat.le_of_ble_eq_true rfl, Nat.le_of_ble_eq_true rfl⟩ zE_blind (zE_at hE hS) hH hl.1 rfl (Nat.le_of_ble_eq_true rfl) dC_comesToLog_14 ⟨Nat.le_of_ble_eq_true rfl, Nat.le_of_ble_eq_true rfl⟩ ?_
  refine lv_aload_n hx hb dC_comesToLog_17 rfl (lv_at hl 2 rfl) ?_
  refine va_get (D := G.1) (ci := 1) (v := .ref (z + 1)) (C := RC) (T := TC) (N := 14) hx hb hz iC hown hK (hH.one hx0) 0 rfl rfl 3 (by decide) (hz _ zm_34) (fun _ h9 => h9) rfl dC_comesToLog_18 ?_
  refine lv_iload_n hx hb dC_comesToLog_21 rfl (lv_at hl 3 rfl) ?_
  refine zw_lald hx hb hK hH 1 hck rfl (j) rfl (hj) (by omega) dC_comesToLog_22 ?_
  refine lv_iload_n hx hb dC_comesToLog_23 rfl (lv_at hl 1 rfl) ?_
  refine zr_S (As := [.long (zck (st.lg j)), .int (nI (k0 % 8))]) (rest := [.int (nI (k0 / 8))]) ⟨hx, hb, hml, hown, hz⟩ (kC_countIn l G B M (zck (st.lg j)) (k0 % 8) hc8) (zt_S zm_118 zm_119 zm_1 zm_120) rfl rfl rfl (show _ ∧ _ ∧ _ ∧ _ = some 2 from by decide +kernel) ⟨Nat.le_of_ble_eq_true rfl, Nat.le_of_ble_eq_true rfl⟩ zE_blind (zE_at hE hS) hH hl.1 rfl (Nat.le_of_ble_eq_true rfl) dC_comesToLog_24 ⟨Nat.le_of_ble_eq_true rfl, Nat.le_of_ble_eq_true rfl⟩ ?_
  refine zw_ti (congrArg nI hzb) ?_
  refine lv_iconst (v := nI 1) hx hb dC_comesToLog_27 (by decide) ?_
  refine lv_iadd hx hb dC_comesToLog_28 ?_
  refine zw_ti (nI_add _ _) ?_
  refine zc_ne (tgt := 44) hx hb dC_comesToLog_29 (by decide) (by omega) (by omega) (fun c => ?_) (fun c => ?_)
  · exact absurd hfit c
  · refine lv_iload hx hb dC_comesToLog_32 (lv_at hl 0 rfl) ?_
    refine lv_aload_n hx hb dC_comesToLog_34 rfl (lv_at hl 2 rfl) ?_
    refine va_get (D := G.1) (ci := 1) (v := .ref (z + 2)) (C := RC) (T := TC) (N := 14) hx hb hz iC hown hK (hH.one hx0) 0 rfl rfl 4 (by decide) (hz _ zm_35) (fun _ h9 => h9) rfl dC_comesToLog_35 ?_
    refine lv_iload_n hx hb dC_comesToLog_38 rfl (lv_at hl 3 rfl) ?_
    refine zw_aald hx hb hK hH 4 hlgs rfl rfl (j) rfl (hj) (by omega) (v := .ref (z + 3 + j)) rfl dC_comesToLog_39 ?_
    refine zw_alen hx hb hK hH 0 hlgr rfl dC_comesToLog_40 ?_
    refine zw_ti (v' := nI (n * 60)) rfl ?_
    refine zc_lt (tgt := 46) hx hb dC_comesToLog_41 (by decide) (by omega) (by omega) (fun c2 => ?_) (fun c2 => ?_)
    · refine lv_aload_n hx hb dC_comesToLog_46 rfl (lv_at hl 2 rfl) ?_
      refine va_get (D := G.1) (ci := 1) (v := .ref (z + 2)) (C := RC) (T := TC) (N := 14) hx hb hz iC hown hK (hH.one hx0) 0 rfl rfl 4 (by decide) (hz _ zm_35) (fun _ h9 => h9) rfl dC_comesToLog_47 ?_
      refine lv_iload_n hx hb dC_comesToLog_50 rfl (lv_at hl 3 rfl) ?_
      refine zw_aald hx hb hK hH 4 hlgs rfl rfl (j) rfl (hj) (by omega) (v := .ref (z + 3 + j)) rfl dC_comesToLog_51 ?_
      refine lv_iload hx hb dC_comesToLog_52 (lv_at hl 0 rfl) ?_
      refine lv_iload_n hx hb dC_comesToLog_54 rfl (lv_at hl 4 rfl) ?_
      refine zw_iast hx hb hK hH hS 0 hlgr rfl ((st.lg j).length) rfl (hlen) (by omega) dC_comesToLog_55 (fun H1 L1 hH hz1 hS => ?_)
      have hsz : H1.size = sz := hz1.trans hsz
      obtain ⟨M1, hM1⟩ : ∃ Mq, Mq = zw_u M (z + 3 + j) (.inl (G.2.1 0, n * 60, .inl (upd (fun k => nI ((st.lg j).getD k 0)) ((st.lg j).length) (nI k0)))) := ⟨_, rfl⟩
      have hH : zw_H G.1 zCl B M1 H1 := by rw [hM1]; exact hH
      have hx0 : M1 x = some (.inr (1, zoC n mb z st.fl.length st.se st.lo st.go st.pa)) := by rw [hM1, zw_un _ _ (by omega)]; exact hx0
      have hck : M1 (z + 1) = some (.inl (G.2.1 1, n, .inr (.inl (fun i => zck (st.lg i))))) := by rw [hM1, zw_un _ _ (by omega)]; exact hck
      have hlgs : M1 (z + 2) = some (.inl (G.2.1 4, n, .inr (.inr (.inr (.inr (fun i => some (z + 3 + i))))))) := by rw [hM1, zw_un _ _ (by omega)]; exact hlgs
      have hlz : M1 (z + 3 + n) = some (.inl (G.2.1 0, n, .inl (fun i => nI ((st.lg i).length)))) := by rw [hM1, zw_un _ _ (by omega)]; exact hlz
      have hlgr : M1 (z + 3 + j) = some (.inl (G.2.1 0, n * 60, .inl (upd (fun k => nI ((st.lg j).getD k 0)) ((st.lg j).length) (nI k0)))) := by rw [hM1]; exact zw_us _ _ _
      refine lv_aload_n hx hb dC_comesToLog_56 rfl (lv_at hl 2 rfl) ?_
      refine va_get (D := G.1) (ci := 1) (v := .ref (z + 3 + n)) (C := RC) (T := TC) (N := 14) hx hb hz iC hown hK (hH.one hx0) 0 rfl rfl 5 (by decide) (hz _ zm_36) (fun _ h9 => h9) rfl dC_comesToLog_57 ?_
      refine lv_iload_n hx hb dC_comesToLog_60 rfl (lv_at hl 3 rfl) ?_
      refine lv_iload hx hb dC_comesToLog_61 (lv_at hl 0 rfl) ?_
      refine lv_iconst (v := nI 1) hx hb dC_comesToLog_63 (by decide) ?_
      refine lv_iadd hx hb dC_comesToLog_64 ?_
      refine zw_ti (nI_add _ _) ?_
      refine zw_iast hx hb hK hH hS 0 hlz rfl (j) rfl (hj) (by omega) dC_comesToLog_65 (fun H2 L2 hH hz1 hS => ?_)
      have hsz : H2.size = sz := hz1.trans hsz
      obtain ⟨M2, hM2⟩ : ∃ Mq, Mq = zw_u M1 (z + 3 + n) (.inl (G.2.1 0, n, .inl (upd (fun i => nI ((st.lg i).length)) j (nI (((st.lg j).length) + 1))))) := ⟨_, rfl⟩
      have hH : zw_H G.1 zCl B M2 H2 := by rw [hM2]; exact hH
      have hx0 : M2 x = some (.inr (1, zoC n mb z st.fl.length st.se st.lo st.go st.pa)) := by rw [hM2, zw_un _ _ (by omega)]; exact hx0
      have hck : M2 (z + 1) = some (.inl (G.2.1 1, n, .inr (.inl (fun i => zck (st.lg i))))) := by rw [hM2, zw_un _ _ (by omega)]; exact hck
      have hlgs : M2 (z + 2) = some (.inl (G.2.1 4, n, .inr (.inr (.inr (.inr (fun i => some (z + 3 + i))))))) := by rw [hM2, zw_un _ _ (by omega)]; exact hlgs
      have hlgr : M2 (z + 3 + j) = some (.inl (G.2.1 0, n * 60, .inl (upd (fun k => nI ((st.lg j).getD k 0)) ((st.lg j).length) (nI k0)))) := by rw [hM2, zw_un _ _ (by omega)]; exact hlgr
      have hlz : M2 (z + 3 + n) = some (.inl (G.2.1 0, n, .inl (upd (fun i => nI ((st.lg i).length)) j (nI (((st.lg j).length) + 1))))) := by rw [hM2]; exact zw_us _ _ _
      refine lv_aload_n hx hb dC_comesToLog_66 rfl (lv_at hl 2 rfl) ?_
      refine va_get (D := G.1) (ci := 1) (v := .ref (z + 1)) (C := RC) (T := TC) (N := 14) hx hb hz iC hown hK (hH.one hx0) 0 rfl rfl 3 (by decide) (hz _ zm_34) (fun _ h9 => h9) rfl dC_comesToLog_67 ?_
      refine lv_iload_n hx hb dC_comesToLog_70 rfl (lv_at hl 3 rfl) ?_
      refine lv_dup2_11 hx hb dC_comesToLog_71 rfl rfl ?_
      refine zw_lald hx hb hK hH 1 hck rfl (j) rfl (hj) (by omega) dC_comesToLog_72 ?_
      refine lv_lconst (v := 1) hx hb dC_comesToLog_73 (by decide) ?_
      refine lv_bipush (v := nI 8) hx hb dC_comesToLog_74 (by decide) ?_
      refine lv_iload_n hx hb dC_comesToLog_76 rfl (lv_at hl 1 rfl) ?_
      refine lv_imul hx hb dC_comesToLog_77 ?_
      refine zw_ti (pk_mul _ _) ?_
      refine lv_lshl hx hb dC_comesToLog_78 rfl ?_
      refine zw_tl (zb_one hc8) ?_
      refine lv_ladd hx hb dC_comesToLog_79 ?_
      refine zw_last hx hb hK hH hS 1 hck rfl (j) rfl (hj) (by omega) dC_comesToLog_80 (fun H3 L3 hH hz1 hS => ?_)
      have hsz : H3.size = sz := hz1.trans hsz
      obtain ⟨M3, hM3⟩ : ∃ Mq, Mq = zw_u M2 (z + 1) (.inl (G.2.1 1, n, .inr (.inl (vp_updL (fun i => zck (st.lg i)) j (zck (st.lg j) + lN (256 ^ (k0 % 8))))))) := ⟨_, rfl⟩
      have hH : zw_H G.1 zCl B M3 H3 := by rw [hM3]; exact hH
      have hx0 : M3 x = some (.inr (1, zoC n mb z st.fl.length st.se st.lo st.go st.pa)) := by rw [hM3, zw_un _ _ (by omega)]; exact hx0
      have hlgs : M3 (z + 2) = some (.inl (G.2.1 4, n, .inr (.inr (.inr (.inr (fun i => some (z + 3 + i))))))) := by rw [hM3, zw_un _ _ (by omega)]; exact hlgs
      have hlz : M3 (z + 3 + n) = some (.inl (G.2.1 0, n, .inl (upd (fun i => nI ((st.lg i).length)) j (nI (((st.lg j).length) + 1))))) := by rw [hM3, zw_un _ _ (by omega)]; exact hlz
      have hlgr : M3 (z + 3 + j) = some (.inl (G.2.1 0, n * 60, .inl (upd (fun k => nI ((st.lg j).getD k 0)) ((st.lg j).length) (nI k0)))) := by rw [hM3, zw_un _ _ (by omega)]; exact hlgr
      have hck : M3 (z + 1) = some (.inl (G.2.1 1, n, .inr (.inl (vp_updL (fun i => zck (st.lg i)) j (zck (st.lg j) + lN (256 ^ (k0 % 8))))))) := by rw [hM3]; exact zw_us _ _ _
      refine lv_iconst (v := nI 1) hx hb dC_comesToLog_81 (by decide) ?_
      have hk : ∀ a : Nat, a ≠ z + 3 + j → a ≠ z + 3 + n → a ≠ z + 1 → M3 a = M a := fun a h1 h2 h3 => by rw [hM3, zw_un _ _ h3, hM2, zw_un _ _ h2, hM1, zw_un _ _ h1]
      exact W.zret (v := (nI 1)) (ty := .boolean) hx hb hr rfl (fun t ht hW => ⟨⟨(nI 1), (M3, sz), rfl, ⟨rfl, hR.logd hj (fun a e h1 h2 h3 h4 => (hk a h1 h2 h3).trans h4) hlgr hlz hck, hk, rfl⟩, by rw [ht]; exact hH, by rw [ht]; exact hsz⟩, hS.F ht⟩) hS.2.2 dC_comesToLog_82
    · exact absurd c2 (by omega)

set_option maxHeartbeats 4000000 in
set_option maxRecDepth 100000 in
theorem kC_comes_no (l : Launch) (G : zG) (B : Nat) (M : zw_M) (sz : Nat) (x z L n mb : Nat) (st : zSt) (qs : List Nat) (g : Nat → Int32) (hn : n ≤ 8) (hR : zCR G M x z L n mb st qs g) (j k0 : Nat) (hj : j < n) (hcc : k0 < 2 ^ 31) (hb8 : ∀ b, b < 8 → zcnt b (st.lg j) < 256) (hfit : ¬ zfits st j k0) : Met l yC_comesToLog (Cond.code yC_comesToLog bC_comesToLog 5 (some .boolean) :: zT) { frames := 1, cells := 0, slots := 0, locals := 22 } (zq G B M sz [.ref x, .int (nI j), .int (nI k0)]) (va_Qi (fun (r : Int32) (u : zw_M × Nat) => r = nI 0 ∧ u = (M, sz)) (zr_o G.1 zCl B) (zw_A B)) (0) (0) (zw_A B) := by
  refine Met.ofW (cc := bC_comesToLog) (maxL := 5) (ret := (some .boolean)) (by decide) rfl ?_
  intro p e s m args below meth c s₁ B0 hml hv
  obtain ⟨rfl, hE, hH, hsz⟩ := hv
  have hx := B0.exec
  have hb := B0.bytes
  have hr := B0.returns
  have hlocks := B0.notSynchronized
  have hz : ∀ w ∈ zT, w.before _ s = true := fun w h => atoms_spec (ws := Cond.code yC_comesToLog bC_comesToLog 5 (some .boolean) :: zT) B0.pre w (List.mem_cons_of_mem _ h)
  have hown : s.vm.findClass RC = some m.cls := findClass_of_methodNamed B0.named
  have hK := hE.1
  have hl := lv_entry ([.ref x, .int (nI j), .int (nI k0)]) (n := 5) (Nat.le_of_ble_eq_true rfl)
  rw [lg_entry_eq]
  generalize (lg_sl ([.ref x, .int (nI j), .int (nI k0)]) ++ List.replicate (5 - (lg_sl ([.ref x, .int (nI j), .int (nI k0)])).length) Slot.unset).toArray = ls at hl ⊢
  have hl : lv_has ls 5 [(0, .ref x), (1, .int (nI j)), (2, .int (nI k0))] := hl
  have hS : va_S (zw_A B) s.heap s.heap [] := va_S.rf
  have hin : meth.name = "comesToLog" := (name_of_methodNamed B0.named B0.method).1
  have hc8 : k0 % 8 < 8 := Nat.mod_lt _ (by decide)
  have hzb := zck_at hb8 hc8
  have hzl := hb8 _ hc8
  have hlgr := hR.lg j hj
  have hx0 := hR.obj
  have hck := hR.ck
  have hlgs := hR.lgs
  have hlz := hR.lz
  have hxz := hR.xz
  have hzL := hR.zL
  refine lv_iload_n hx hb dC_comesToLog_0 rfl (lv_at hl 2 rfl) ?_
  refine zr_S (As := [.int (nI k0)]) (rest := []) ⟨hx, hb, hml, hown, hz⟩ (kC_actorOf l G B M k0 hcc) (zt_S zm_254 zm_255 zm_1 zm_256) rfl rfl rfl (show _ ∧ _ ∧ _ ∧ _ = some 1 from by decide +kernel) ⟨Nat.le_of_ble_eq_true rfl, Nat.le_of_ble_eq_true rfl⟩ zE_blind (zE_at hE hS) hH hl.1 rfl (Nat.le_of_ble_eq_true rfl) dC_comesToLog_1 ⟨Nat.le_of_ble_eq_true rfl, Nat.le_of_ble_eq_true rfl⟩ ?_
  refine lv_istore_n (lv' := [(3, .int (nI (k0 % 8))), (0, .ref x), (1, .int (nI j)), (2, .int (nI k0))]) hx hb dC_comesToLog_4 rfl hl (by decide) rfl (fun ls hl => ?_)
  refine lv_aload_n hx hb dC_comesToLog_5 rfl (lv_at hl 1 rfl) ?_
  refine va_get (D := G.1) (ci := 1) (v := .ref (z + 3 + n)) (C := RC) (T := TC) (N := 14) hx hb hz iC hown hK (hH.one hx0) 0 rfl rfl 5 (by decide) (hz _ zm_36) (fun _ h9 => h9) rfl dC_comesToLog_6 ?_
  refine lv_iload_n hx hb dC_comesToLog_9 rfl (lv_at hl 2 rfl) ?_
  refine zw_iald hx hb hK hH 0 hlz rfl (j) rfl (hj) (by omega) dC_comesToLog_10 ?_
  refine lv_istore (lv' := [(4, .int (nI ((st.lg j).length))), (3, .int (nI (k0 % 8))), (0, .ref x), (1, .int (nI j)), (2, .int (nI k0))]) hx hb dC_comesToLog_11 hl (by decide) rfl (fun ls hl => ?_)
  refine lv_iload_n hx hb dC_comesToLog_13 rfl (lv_at hl 4 rfl) ?_
  refine zr_S (As := [.int (nI k0)]) (rest := []) ⟨hx, hb, hml, hown, hz⟩ (kC_seqOf l G B M k0 hcc) (zt_S zm_257 zm_258 zm_1 zm_259) rfl rfl rfl (show _ ∧ _ ∧ _ ∧ _ = some 1 from by decide +kernel) ⟨Nat.le_of_ble_eq_true rfl, Nat.le_of_ble_eq_true rfl⟩ zE_blind (zE_at hE hS) hH hl.1 rfl (Nat.le_of_ble_eq_true rfl) dC_comesToLog_14 ⟨Nat.le_of_ble_eq_true rfl, Nat.le_of_ble_eq_true rfl⟩ ?_
  refine lv_aload_n hx hb dC_comesToLog_17 rfl (lv_at hl 2 rfl) ?_
  refine va_get (D := G.1) (ci := 1) (v := .ref (z + 1)) (C := RC) (T := TC) (N := 14) hx hb hz iC hown hK (hH.one hx0) 0 rfl rfl 3 (by decide) (hz _ zm_34) (fun _ h9 => h9) rfl dC_comesToLog_18 ?_
  refine lv_iload_n hx hb dC_comesToLog_21 rfl (lv_at hl 3 rfl) ?_
  refine zw_lald hx hb hK hH 1 hck rfl (j) rfl (hj) (by omega) dC_comesToLog_22 ?_
  refine lv_iload_n hx hb dC_comesToLog_23 rfl (lv_at hl 1 rfl) ?_
  refine zr_S (As := [.long (zck (st.lg j)), .int (nI (k0 % 8))]) (rest := [.int (nI (k0 / 8))]) ⟨hx, hb, hml, hown, hz⟩ (kC_countIn l G B M (zck (st.lg j)) (k0 % 8) hc8) (zt_S zm_118 zm_119 zm_1 zm_120) rfl rfl rfl (show _ ∧ _ ∧ _ ∧ _ = some 2 from by decide +kernel) ⟨Nat.le_of_ble_eq_true rfl, Nat.le_of_ble_eq_true rfl⟩ zE_blind (zE_at hE hS) hH hl.1 rfl (Nat.le_of_ble_eq_true rfl) dC_comesToLog_24 ⟨Nat.le_of_ble_eq_true rfl, Nat.le_of_ble_eq_true rfl⟩ ?_
  refine zw_ti (congrArg nI hzb) ?_
  refine lv_iconst (v := nI 1) hx hb dC_comesToLog_27 (by decide) ?_
  refine lv_iadd hx hb dC_comesToLog_28 ?_
  refine zw_ti (nI_add _ _) ?_
  refine zc_ne (tgt := 44) hx hb dC_comesToLog_29 (by decide) (by omega) (by omega) (fun c => ?_) (fun c => ?_)
  · refine lv_iconst (v := nI 0) hx hb dC_comesToLog_44 (by decide) ?_
    exact W.zret (v := (nI 0)) (ty := .boolean) hx hb hr rfl (fun t ht hW => ⟨⟨(nI 0), (M, sz), rfl, ⟨rfl, rfl⟩, by rw [ht]; exact hH, by rw [ht]; exact hsz⟩, hS.F ht⟩) hS.2.2 dC_comesToLog_45
  · exact absurd c hfit

set_option maxHeartbeats 4000000 in
set_option maxRecDepth 100000 in
theorem kM_init (l : Launch) (G : zG) (B : Nat) (M : zw_M) (sz : Nat) (q : Nat) (num snd rcv byt : Int32) (told : Int64) (ch : Nat) (v0 v1 v2 v3 v4 v5 : Value) (hq0 : M q = some (.inr (0, [v0, v1, v2, v3, v4, v5]))) : Met l yM_init (Cond.code yM_init bM_init 8 none :: zT) { frames := 1, cells := 0, slots := 0, locals := 12 } (zq G B M sz [.ref q, .int num, .int snd, .int rcv, .int byt, .long told, .ref ch]) (va_Qv (fun (u : zw_M × Nat) => u = (zw_u M q (.inr (0, zoM num snd rcv byt told ch)), sz)) (zr_o G.1 zCl B) (zw_A B)) (0) (0) (zw_A B) := by
  refine Met.ofW (cc := bM_init) (maxL := 8) (ret := none) (by decide) rfl ?_
  intro p e s m args below meth c s₁ B0 hml hv
  obtain ⟨rfl, hE, hH, hsz⟩ := hv
  have hx := B0.exec
  have hb := B0.bytes
  have hr := B0.returns
  have hlocks := B0.notSynchronized
  have hz : ∀ w ∈ zT, w.before _ s = true := fun w h => atoms_spec (ws := Cond.code yM_init bM_init 8 none :: zT) B0.pre w (List.mem_cons_of_mem _ h)
  have hown : s.vm.findClass RM = some m.cls := findClass_of_methodNamed B0.named
  have hK := hE.1
  have hl := lv_entry ([.ref q, .int num, .int snd, .int rcv, .int byt, .long told, .ref ch]) (n := 8) (Nat.le_of_ble_eq_true rfl)
  rw [lg_entry_eq]
  generalize (lg_sl ([.ref q, .int num, .int snd, .int rcv, .int byt, .long told, .ref ch]) ++ List.replicate (8 - (lg_sl ([.ref q, .int num, .int snd, .int rcv, .int byt, .long told, .ref ch])).length) Slot.unset).toArray = ls at hl ⊢
  have hl : lv_has ls 8 [(0, .ref q), (1, .int num), (2, .int snd), (3, .int rcv), (4, .int byt), (5, .long told), (7, .ref ch)] := hl
  have hS : va_S (zw_A B) s.heap s.heap [] := va_S.rf
  have hin : meth.name = "<init>" := (name_of_methodNamed B0.named B0.method).1
  have hq0 : M q = some (.inr (0, [v0, v1, v2, v3, v4, v5])) := hq0
  refine lv_aload_n hx hb dM_init_0 rfl (lv_at hl 0 rfl) ?_
  refine W.objInit hx hb hown (hz _ zm_282) (hz _ zm_19) (hz _ zm_20) rfl (by rw [hml]; exact hl.1) rfl dM_init_1 (Nat.le_of_ble_eq_true rfl) (Nat.le_of_ble_eq_true rfl) ?_
  refine lv_aload_n hx hb dM_init_4 rfl (lv_at hl 0 rfl) ?_
  refine lv_iload_n hx hb dM_init_5 rfl (lv_at hl 1 rfl) ?_
  refine zw_putF (D := G.1) (ci := 0) (v := .int num) (ty := .int) (C := RM) (T := TM) (N := 6) hx hb hz iM tM tM_ok nM hown hK hH hS hq0 rfl 0 (by decide) (hz _ zm_283) (fun _ h9 => h9) rfl hin rfl (by decide +kernel) rfl rfl (Nat.le_of_ble_eq_true rfl) dM_init_6 (fun H1 L1 hH hz1 hS => ?_)
  have hsz : H1.size = sz := hz1.trans hsz
  obtain ⟨M1, hM1⟩ : ∃ Mq, Mq = zw_u M q (.inr (0, [.int num, v1, v2, v3, v4, v5])) := ⟨_, rfl⟩
  have hH : zw_H G.1 zCl B M1 H1 := by rw [hM1]; exact hH
  have hq0 : M1 q = some (.inr (0, [.int num, v1, v2, v3, v4, v5])) := by rw [hM1]; exact zw_us _ _ _
  refine lv_aload_n hx hb dM_init_9 rfl (lv_at hl 0 rfl) ?_
  refine lv_iload_n hx hb dM_init_10 rfl (lv_at hl 2 rfl) ?_
  refine zw_putF (D := G.1) (ci := 0) (v := .int snd) (ty := .int) (C := RM) (T := TM) (N := 6) hx hb hz iM tM tM_ok nM hown hK hH hS hq0 rfl 1 (by decide) (hz _ zm_285) (fun _ h9 => h9) rfl hin rfl (by decide +kernel) rfl rfl (Nat.le_of_ble_eq_true rfl) dM_init_11 (fun H2 L2 hH hz1 hS => ?_)
  have hsz : H2.size = sz := hz1.trans hsz
  obtain ⟨M2, hM2⟩ : ∃ Mq, Mq = zw_u M1 q (.inr (0, [.int num, .int snd, v2, v3, v4, v5])) := ⟨_, rfl⟩
  have hH : zw_H G.1 zCl B M2 H2 := by rw [hM2]; exact hH
  have hq0 : M2 q = some (.inr (0, [.int num, .int snd, v2, v3, v4, v5])) := by rw [hM2]; exact zw_us _ _ _
  refine lv_aload_n hx hb dM_init_14 rfl (lv_at hl 0 rfl) ?_
  refine lv_iload_n hx hb dM_init_15 rfl (lv_at hl 3 rfl) ?_
  refine zw_putF (D := G.1) (ci := 0) (v := .int rcv) (ty := .int) (C := RM) (T := TM) (N := 6) hx hb hz iM tM tM_ok nM hown hK hH hS hq0 rfl 2 (by decide) (hz _ zm_287) (fun _ h9 => h9) rfl hin rfl (by decide +kernel) rfl rfl (Nat.le_of_ble_eq_true rfl) dM_init_16 (fun H3 L3 hH hz1 hS => ?_)
  have hsz : H3.size = sz := hz1.trans hsz
  obtain ⟨M3, hM3⟩ : ∃ Mq, Mq = zw_u M2 q (.inr (0, [.int num, .int snd, .int rcv, v3, v4, v5])) := ⟨_, rfl⟩
  have hH : zw_H G.1 zCl B M3 H3 := by rw [hM3]; exact hH
  have hq0 : M3 q = some (.inr (0, [.int num, .int snd, .int rcv, v3, v4, v5])) := by rw [hM3]; exact zw_us _ _ _
  refine lv_aload_n hx hb dM_init_19 rfl (lv_at hl 0 rfl) ?_
  refine lv_iload hx hb dM_init_20 (lv_at hl 4 rfl) ?_
  refine zw_putF (D := G.1) (ci := 0) (v := .int byt) (ty := .int) (C := RM) (T := TM) (N := 6) hx hb hz iM tM tM_ok nM hown hK hH hS hq0 rfl 3 (by decide) (hz _ zm_289) (fun _ h9 => h9) rfl hin rfl (by decide +kernel) rfl rfl (Nat.le_of_ble_eq_true rfl) dM_init_22 (fun H4 L4 hH hz1 hS => ?_)
  have hsz : H4.size = sz := hz1.trans hsz
  obtain ⟨M4, hM4⟩ : ∃ Mq, Mq = zw_u M3 q (.inr (0, [.int num, .int snd, .int rcv, .int byt, v4, v5])) := ⟨_, rfl⟩
  have hH : zw_H G.1 zCl B M4 H4 := by rw [hM4]; exact hH
  have hq0 : M4 q = some (.inr (0, [.int num, .int snd, .int rcv, .int byt, v4, v5])) := by rw [hM4]; exact zw_us _ _ _
  refine lv_aload_n hx hb dM_init_25 rfl (lv_at hl 0 rfl) ?_
  refine lv_lload hx hb dM_init_26 (lv_at hl 5 rfl) ?_
  refine zw_putF (D := G.1) (ci := 0) (v := .long told) (ty := .long) (C := RM) (T := TM) (N := 6) hx hb hz iM tM tM_ok nM hown hK hH hS hq0 rfl 4 (by decide) (hz _ zm_291) (fun _ h9 => h9) rfl hin rfl (by decide +kernel) rfl rfl (Nat.le_of_ble_eq_true rfl) dM_init_28 (fun H5 L5 hH hz1 hS => ?_)
  have hsz : H5.size = sz := hz1.trans hsz
  obtain ⟨M5, hM5⟩ : ∃ Mq, Mq = zw_u M4 q (.inr (0, [.int num, .int snd, .int rcv, .int byt, .long told, v5])) := ⟨_, rfl⟩
  have hH : zw_H G.1 zCl B M5 H5 := by rw [hM5]; exact hH
  have hq0 : M5 q = some (.inr (0, [.int num, .int snd, .int rcv, .int byt, .long told, v5])) := by rw [hM5]; exact zw_us _ _ _
  refine lv_aload_n hx hb dM_init_31 rfl (lv_at hl 0 rfl) ?_
  refine lv_aload hx hb dM_init_32 (lv_at hl 6 rfl) ?_
  refine zw_putF (D := G.1) (ci := 0) (v := .ref ch) (ty := (.array .int)) (C := RM) (T := TM) (N := 6) hx hb hz iM tM tM_ok nM hown hK hH hS hq0 rfl 5 (by decide) (hz _ zm_293) (fun _ h9 => h9) rfl hin rfl (by decide +kernel) rfl rfl (Nat.le_of_ble_eq_true rfl) dM_init_34 (fun H6 L6 hH hz1 hS => ?_)
  have hsz : H6.size = sz := hz1.trans hsz
  obtain ⟨M6, hM6⟩ : ∃ Mq, Mq = zw_u M5 q (.inr (0, [.int num, .int snd, .int rcv, .int byt, .long told, .ref ch])) := ⟨_, rfl⟩
  have hH : zw_H G.1 zCl B M6 H6 := by rw [hM6]; exact hH
  have hq0 : M6 q = some (.inr (0, [.int num, .int snd, .int rcv, .int byt, .long told, .ref ch])) := by rw [hM6]; exact zw_us _ _ _
  exact W.vret hx hb hr (fun t ht hW => ⟨⟨(M6, sz), rfl, by rw [hM6, hM5, hM4, hM3, hM2, hM1, zw_uu, zw_uu, zw_uu, zw_uu, zw_uu]; rfl, by rw [ht]; exact hH, by rw [ht]; exact hsz⟩, hS.F ht⟩) hS.2.2 dM_init_37

