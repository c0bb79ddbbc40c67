/-! THE CLASS: more readers -/
theorem zlook_out {a : Int32} (ha : a < 0 ∨ nI 9 ≤ a) : a.toInt < 0 ∨ 8 < a.toInt := by
  rcases ha with h | h
  · exact Or.inl (by simpa using Int32.lt_iff_toInt_lt.mp h)
  · have := Int32.le_iff_toInt_le.mp h
    rw [nI_toInt (by decide)] at this
    exact Or.inr (by omega)
set_option maxHeartbeats 4000000 in
set_option maxRecDepth 100000 in
theorem kC_replicasWithAll (l : Launch) (G : zG) (B : Nat) (M : zw_M) (x n mb z nf se lo go pa : Nat) (hn : n ≤ 8) (hx0 : M x = some (.inr (1, zoC n mb z nf se lo go pa))) (ck : Nat → Int64) (hck : M (z + 1) = some (.inl (G.2.1 1, n, .inr (.inl ck)))) (lz : Nat → Nat) (hlz : M (z + 3 + n) = some (.inl (G.2.1 0, n, .inl (fun i => nI (lz i))))) (T : Nat) (hT : T = zsum (fun a => zb (ck a) a) n) (hT2 : T < 2 ^ 31) (hlb : ∀ i, i < n → lz i < 2 ^ 31) : Met l yC_replicasWithAll (Cond.code yC_replicasWithAll bC_replicasWithAll 4 (some .int) :: zT) { frames := 3, cells := 0, slots := 0, locals := 66 } (zp G B M [.ref x]) (k2_QcV (.int (nI (zsum (fun r => if lz r = T then 1 else 0) n)))) 0 0 (fun _ => False) := by
  refine Met.ofW (cc := bC_replicasWithAll) (maxL := 4) (ret := (some .int)) (by decide) rfl ?_
  intro p e s m args below meth c s₁ B0 hml hv
  obtain ⟨rfl, hE, hH⟩ := hv
  have hx := B0.exec
  have hb := B0.bytes
  have hr := B0.returns
  have hlocks := B0.notSynchronized
  have hz : ∀ w ∈ zT, w.before _ s = true := fun w h => atoms_spec (ws := Cond.code yC_replicasWithAll bC_replicasWithAll 4 (some .int) :: zT) B0.pre w (List.mem_cons_of_mem _ h)
  have hown : s.vm.findClass RC = some m.cls := findClass_of_methodNamed B0.named
  have hK := hE.1
  have hl := lv_entry ([.ref x]) (n := 4) (Nat.le_of_ble_eq_true rfl)
  rw [lg_entry_eq]
  generalize (lg_sl ([.ref x]) ++ List.replicate (4 - (lg_sl ([.ref x])).length) Slot.unset).toArray = ls at hl ⊢
  have hl : lv_has ls 4 [(0, .ref x)] := hl
  have hS : va_S (zw_A B) s.heap s.heap [] := va_S.rf
  refine lv_aload_n hx hb dC_replicasWithAll_0 rfl (lv_at hl 0 rfl) ?_
  refine zr_V (As := []) (rest := []) (q := (RC, TC, 14)) ⟨hx, hb, hml, hown, hz⟩ (kC_madeByAll l G B M x n mb z nf se lo go pa hn hx0 ck hck) (zt_V zm_129 zm_131 zs_5 zm_1 zm_132) rfl rfl rfl (show _ ∧ _ ∧ _ ∧ _ = some 0 from by decide +kernel) ⟨Nat.le_of_ble_eq_true rfl, Nat.le_of_ble_eq_true rfl⟩ zE_blind (zE_at hE hS) hH hK hx0 rfl rfl hl.1 rfl (Nat.le_of_ble_eq_true rfl) dC_replicasWithAll_1 ⟨Nat.zero_le _, Nat.zero_le _⟩ ?_
  refine zw_ti (congrArg nI hT.symm) ?_
  refine lv_istore_n (lv' := [(1, .int (nI T)), (0, .ref x)]) hx hb dC_replicasWithAll_4 rfl hl (by decide) rfl (fun ls hl => ?_)
  refine lv_iconst (v := nI 0) hx hb dC_replicasWithAll_5 (by decide) ?_
  refine lv_istore_n (lv' := [(2, .int (nI 0)), (1, .int (nI T)), (0, .ref x)]) hx hb dC_replicasWithAll_6 rfl hl (by decide) rfl (fun ls hl => ?_)
  refine lv_iconst (v := nI 0) hx hb dC_replicasWithAll_7 (by decide) ?_
  refine lv_istore_n (lv' := [(3, .int (nI 0)), (2, .int (nI 0)), (1, .int (nI T)), (0, .ref x)]) hx hb dC_replicasWithAll_8 rfl hl (by decide) rfl (fun ls hl => ?_)
  refine zl_up (Wg := fun ls => W p l e _ s m _ below meth c s.heap [] 0 0 _ (F0 m 9 ls [])) (fun i ls => lv_has ls 4 [(0, .ref x), (1, .int (nI T)), (2, .int (nI (zsum (fun r => if lz r = T then 1 else 0) i))), (3, .int (nI i))]) n ?_ (i := 0) (by omega) (lv_sub hl [3, 2, 1, 0] rfl)
  intro i hi ls hl ih
  have hl : lv_has ls 4 [(0, .ref x), (1, .int (nI T)), (2, .int (nI (zsum (fun r => if lz r = T then 1 else 0) i))), (3, .int (nI i))] := hl
  refine lv_iload_n hx hb dC_replicasWithAll_9 rfl (lv_at hl 3 rfl) ?_
  refine lv_aload_n hx hb dC_replicasWithAll_10 rfl (lv_at hl 0 rfl) ?_
  refine va_get (D := G.1) (ci := 1) (v := .int (nI n)) (C := RC) (T := TC) (N := 14) hx hb hz iC hown hK (hH.one hx0) 0 rfl rfl 0 (by decide) (hz _ zm_31) (fun _ h9 => h9) rfl dC_replicasWithAll_11 ?_
  refine zc_ge (tgt := 36) hx hb dC_replicasWithAll_14 (by decide) (by omega) (by omega) (fun c => ?_) (fun c => ?_)
  · have e1 : n = i := by omega
    rw [e1]
    refine lv_iload_n hx hb dC_replicasWithAll_36 rfl (lv_at hl 2 rfl) ?_
    exact W.iret (v := (nI (zsum (fun r => if lz r = T then 1 else 0) i))) hx hb hr (fun t ht hW => ⟨rfl, ht⟩) (fun q h => by cases h) dC_replicasWithAll_37
  · refine lv_aload_n hx hb dC_replicasWithAll_17 rfl (lv_at hl 0 rfl) ?_
    refine va_get (D := G.1) (ci := 1) (v := .ref (z + 3 + n)) (C := RC) (T := TC) (N := 14) hx hb hz iC hown hK (hH.one hx0) 0 rfl rfl 5 (by decide) (hz _ zm_36) (fun _ h9 => h9) rfl dC_replicasWithAll_18 ?_
    refine lv_iload_n hx hb dC_replicasWithAll_21 rfl (lv_at hl 3 rfl) ?_
    refine zw_iald hx hb hK hH 0 hlz rfl (i) rfl (c) (by omega) dC_replicasWithAll_22 ?_
    refine lv_iload_n hx hb dC_replicasWithAll_23 rfl (lv_at hl 1 rfl) ?_
    refine zc_ne (tgt := 30) hx hb dC_replicasWithAll_24 (by decide) (by have := hlb i c; omega) (by omega) (fun c2 => ?_) (fun c2 => ?_)
    · refine lv_iinc (v := (nI (i + 1))) (lv' := [(3, .int (nI (i + 1))), (0, .ref x), (1, .int (nI T)), (2, .int (nI (zsum (fun r => if lz r = T then 1 else 0) i)))]) hx hb dC_replicasWithAll_30 hl (k := 3) rfl (nI_add _ _) (by decide) rfl (fun ls hl => ?_)
      refine lv_goto (tgt := 9) hx hb dC_replicasWithAll_33 (by decide) ?_
      exact ih c ls (lv_sub hl [1, 2, 3, 0] (by rw [show zsum (fun r => if lz r = T then 1 else 0) (i + 1) = zsum (fun r => if lz r = T then 1 else 0) i from by show zsum _ i + (if lz i = T then 1 else 0) = _; rw [if_neg c2]; rfl]; rfl))
    · refine lv_iinc (v := (nI ((zsum (fun r => if lz r = T then 1 else 0) i) + 1))) (lv' := [(2, .int (nI ((zsum (fun r => if lz r = T then 1 else 0) i) + 1))), (0, .ref x), (1, .int (nI T)), (3, .int (nI i))]) hx hb dC_replicasWithAll_27 hl (k := 2) rfl (nI_add _ _) (by decide) rfl (fun ls hl => ?_)
      refine lv_iinc (v := (nI (i + 1))) (lv' := [(3, .int (nI (i + 1))), (2, .int (nI ((zsum (fun r => if lz r = T then 1 else 0) i) + 1))), (0, .ref x), (1, .int (nI T))]) hx hb dC_replicasWithAll_30 hl (k := 3) rfl (nI_add _ _) (by decide) rfl (fun ls hl => ?_)
      refine lv_goto (tgt := 9) hx hb dC_replicasWithAll_33 (by decide) ?_
      exact ih c ls (lv_sub hl [2, 3, 1, 0] (by rw [show zsum (fun r => if lz r = T then 1 else 0) (i + 1) = zsum (fun r => if lz r = T then 1 else 0) i + 1 from by show zsum _ i + (if lz i = T then 1 else 0) = _; rw [if_pos c2]]; rfl))

set_option maxHeartbeats 4000000 in
set_option maxRecDepth 100000 in
theorem kC_bytesInFlight (l : Launch) (G : zG) (B : Nat) (M : zw_M) (x n mb z nf se lo go pa : Nat) (hn : n ≤ 8) (hx0 : M x = some (.inr (1, zoC n mb z nf se lo go pa))) (ff : Nat → Option Nat) (hfl : M (z + 5 + 2 * n) = some (.inl (G.2.1 3, 120, .inr (.inr (.inr (.inr ff)))))) (hnf : nf ≤ 120) (by1 : Nat → Nat) (hm : ∀ i, i < nf → ∃ (q : Nat) (num snd rcv : Int32) (told : Int64) (ch : Nat), ff i = some q ∧ M q = some (.inr (0, zoM num snd rcv (nI (by1 i)) told ch))) : Met l yC_bytesInFlight (Cond.code yC_bytesInFlight bC_bytesInFlight 4 (some .int) :: zT) { frames := 1, cells := 0, slots := 0, locals := 21 } (zp G B M [.ref x]) (k2_QcV (.int (nI (zsum by1 nf)))) 0 0 (fun _ => False) := by
  refine Met.ofW (cc := bC_bytesInFlight) (maxL := 4) (ret := (some .int)) (by decide) rfl ?_
  intro p e s m args below meth c s₁ B0 hml hv
  obtain ⟨rfl, hE, hH⟩ := hv
  have hx := B0.exec
  have hb := B0.bytes
  have hr := B0.returns
  have hlocks := B0.notSynchronized
  have hz : ∀ w ∈ zT, w.before _ s = true := fun w h => atoms_spec (ws := Cond.code yC_bytesInFlight bC_bytesInFlight 4 (some .int) :: zT) B0.pre w (List.mem_cons_of_mem _ h)
  have hown : s.vm.findClass RC = some m.cls := findClass_of_methodNamed B0.named
  have hK := hE.1
  have hl := lv_entry ([.ref x]) (n := 4) (Nat.le_of_ble_eq_true rfl)
  rw [lg_entry_eq]
  generalize (lg_sl ([.ref x]) ++ List.replicate (4 - (lg_sl ([.ref x])).length) Slot.unset).toArray = ls at hl ⊢
  have hl : lv_has ls 4 [(0, .ref x)] := hl
  have hS : va_S (zw_A B) s.heap s.heap [] := va_S.rf
  refine lv_iconst (v := nI 0) hx hb dC_bytesInFlight_0 (by decide) ?_
  refine lv_istore_n (lv' := [(1, .int (nI 0)), (0, .ref x)]) hx hb dC_bytesInFlight_1 rfl hl (by decide) rfl (fun ls hl => ?_)
  refine lv_iconst (v := nI 0) hx hb dC_bytesInFlight_2 (by decide) ?_
  refine lv_istore_n (lv' := [(2, .int (nI 0)), (1, .int (nI 0)), (0, .ref x)]) hx hb dC_bytesInFlight_3 rfl hl (by decide) rfl (fun ls hl => ?_)
  refine zl_up (Wg := fun ls => W p l e _ s m _ below meth c s.heap [] 0 0 _ (F0 m 4 ls [])) (fun i ls => lv_has ls 4 [(0, .ref x), (1, .int (nI (zsum by1 i))), (2, .int (nI i))]) nf ?_ (i := 0) (by omega) (lv_sub hl [2, 1, 0] rfl)
  intro i hi ls hl ih
  have hl : lv_has ls 4 [(0, .ref x), (1, .int (nI (zsum by1 i))), (2, .int (nI i))] := hl
  refine lv_iload_n hx hb dC_bytesInFlight_4 rfl (lv_at hl 2 rfl) ?_
  refine lv_aload_n hx hb dC_bytesInFlight_5 rfl (lv_at hl 0 rfl) ?_
  refine va_get (D := G.1) (ci := 1) (v := .int (nI nf)) (C := RC) (T := TC) (N := 14) hx hb hz iC hown hK (hH.one hx0) 0 rfl rfl 8 (by decide) (hz _ zm_39) (fun _ h9 => h9) rfl dC_bytesInFlight_6 ?_
  refine zc_ge (tgt := 35) hx hb dC_bytesInFlight_9 (by decide) (by omega) (by omega) (fun c => ?_) (fun c => ?_)
  · have e1 : nf = i := by omega
    rw [e1]
    refine lv_iload_n hx hb dC_bytesInFlight_35 rfl (lv_at hl 1 rfl) ?_
    exact W.iret (v := (nI (zsum by1 i))) hx hb hr (fun t ht hW => ⟨rfl, ht⟩) (fun q h => by cases h) dC_bytesInFlight_36
  · obtain ⟨q, num, snd, rcv, told, ch, hq, hq0⟩ := hm i c
    refine lv_aload_n hx hb dC_bytesInFlight_12 rfl (lv_at hl 0 rfl) ?_
    refine lv_iload_n hx hb dC_bytesInFlight_13 rfl (lv_at hl 2 rfl) ?_
    refine zr_V (As := [.int (nI i)]) (rest := []) (q := (RC, TC, 14)) ⟨hx, hb, hml, hown, hz⟩ (kC_messageAt_in l G B M x n mb z nf se lo go pa hn hx0 ff hfl hnf i q c hq) (zt_V zm_81 zm_83 zs_0 zm_1 zm_84) rfl rfl rfl (show _ ∧ _ ∧ _ ∧ _ = some 1 from by decide +kernel) ⟨Nat.le_of_ble_eq_true rfl, Nat.le_of_ble_eq_true rfl⟩ zE_blind (zE_at hE hS) hH hK hx0 rfl rfl hl.1 rfl (Nat.le_of_ble_eq_true rfl) dC_bytesInFlight_14 ⟨Nat.zero_le _, Nat.zero_le _⟩ ?_
    refine lv_astore_n (lv' := [(3, .ref q), (0, .ref x), (1, .int (nI (zsum by1 i))), (2, .int (nI i))]) hx hb dC_bytesInFlight_17 rfl hl (by decide) rfl (fun ls hl => ?_)
    refine lv_aload_n hx hb dC_bytesInFlight_18 rfl (lv_at hl 0 rfl) ?_
    refine lv_ifnull hx hb dC_bytesInFlight_19 ?_
    refine lv_iload_n hx hb dC_bytesInFlight_22 rfl (lv_at hl 2 rfl) ?_
    refine lv_aload_n hx hb dC_bytesInFlight_23 rfl (lv_at hl 0 rfl) ?_
    refine va_get (D := G.1) (ci := 0) (v := .int (nI (by1 i))) (C := RM) (T := TM) (N := 6) hx hb hz iM hown hK (hH.one hq0) 0 rfl rfl 3 (by decide) (hz _ zm_290) (fun _ h9 => h9) rfl dC_bytesInFlight_24 ?_
    refine lv_iadd hx hb dC_bytesInFlight_27 ?_
    refine zw_ti (nI_add _ _) ?_
    refine lv_istore_n (lv' := [(1, .int (nI ((zsum by1 i) + (by1 i)))), (3, .ref q), (0, .ref x), (2, .int (nI i))]) hx hb dC_bytesInFlight_28 rfl hl (by decide) rfl (fun ls hl => ?_)
    refine lv_iinc (v := (nI (i + 1))) (lv' := [(2, .int (nI (i + 1))), (1, .int (nI ((zsum by1 i) + (by1 i)))), (3, .ref q), (0, .ref x)]) hx hb dC_bytesInFlight_29 hl (k := 3) rfl (nI_add _ _) (by decide) rfl (fun ls hl => ?_)
    refine lv_goto (tgt := 4) hx hb dC_bytesInFlight_32 (by decide) ?_
    exact ih c ls (lv_sub hl [3, 1, 0] rfl)

set_option maxHeartbeats 4000000 in
set_option maxRecDepth 100000 in
theorem kC_weight_in (l : Launch) (G : zG) (B : Nat) (M : zw_M) (x n mb z nf se lo go pa : Nat) (hn : n ≤ 8) (hx0 : M x = some (.inr (1, zoC n mb z nf se lo go pa))) (ck : Nat → Int64) (hck : M (z + 1) = some (.inl (G.2.1 1, n, .inr (.inl ck)))) (hwt : M (z + 4 + n) = some (.inl (G.2.1 4, n, .inr (.inr (.inr (.inr (fun i => some (z + 5 + n + i)))))))) (f : Nat → Int32) (j sq : Nat) (hj : j < n) (hwj : M (z + 5 + n + j) = some (.inl (G.2.1 0, 60, .inl f))) (hq1 : 1 ≤ sq) (hq2 : sq ≤ zb (ck j) j) (hq3 : sq ≤ 60) : Met l yC_weight (Cond.code yC_weight bC_weight 3 (some .int) :: zT) { frames := 2, cells := 0, slots := 0, locals := 43 } (zp G B M [.ref x, .int (nI j), .int (nI sq)]) (k2_QcV (.int (f (sq - 1)))) 0 0 (fun _ => False) := by
  refine Met.ofW (cc := bC_weight) (maxL := 3) (ret := (some .int)) (by decide) rfl ?_
  intro p e s m args below meth c s₁ B0 hml hv
  obtain ⟨rfl, hE, hH⟩ := hv
  have hx := B0.exec
  have hb := B0.bytes
  have hr := B0.returns
  have hlocks := B0.notSynchronized
  have hz : ∀ w ∈ zT, w.before _ s = true := fun w h => atoms_spec (ws := Cond.code yC_weight bC_weight 3 (some .int) :: zT) B0.pre w (List.mem_cons_of_mem _ h)
  have hown : s.vm.findClass RC = some m.cls := findClass_of_methodNamed B0.named
  have hK := hE.1
  have hl := lv_entry ([.ref x, .int (nI j), .int (nI sq)]) (n := 3) (Nat.le_of_ble_eq_true rfl)
  rw [lg_entry_eq]
  generalize (lg_sl ([.ref x, .int (nI j), .int (nI sq)]) ++ List.replicate (3 - (lg_sl ([.ref x, .int (nI j), .int (nI sq)])).length) Slot.unset).toArray = ls at hl ⊢
  have hl : lv_has ls 3 [(0, .ref x), (1, .int (nI j)), (2, .int (nI sq))] := hl
  have hS : va_S (zw_A B) s.heap s.heap [] := va_S.rf
  refine lv_aload_n hx hb dC_weight_0 rfl (lv_at hl 0 rfl) ?_
  refine lv_iload_n hx hb dC_weight_1 rfl (lv_at hl 1 rfl) ?_
  refine zr_V (As := [.int (nI j)]) (rest := []) (q := (RC, TC, 14)) ⟨hx, hb, hml, hown, hz⟩ (kC_isReplica_in l G B M x n mb z nf se lo go pa hn hx0 j hj) (zt_V zm_93 zm_95 zs_2 zm_1 zm_96) rfl rfl rfl (show _ ∧ _ ∧ _ ∧ _ = some 1 from by decide +kernel) ⟨Nat.le_of_ble_eq_true rfl, Nat.le_of_ble_eq_true rfl⟩ zE_blind (zE_at hE hS) hH hK hx0 rfl rfl hl.1 rfl (Nat.le_of_ble_eq_true rfl) dC_weight_2 ⟨Nat.zero_le _, Nat.zero_le _⟩ ?_
  refine zc_eq0 (tgt := 22) hx hb dC_weight_5 (by decide) (by omega) (fun c => ?_) (fun c => ?_)
  · exact absurd c (by decide)
  · refine lv_iload_n hx hb dC_weight_8 rfl (lv_at hl 2 rfl) ?_
    refine lv_iconst (v := nI 1) hx hb dC_weight_9 (by decide) ?_
    refine zc_lt (tgt := 22) hx hb dC_weight_10 (by decide) (by omega) (by omega) (fun c2 => ?_) (fun c2 => ?_)
    · exact absurd c2 (by omega)
    · refine lv_iload_n hx hb dC_weight_13 rfl (lv_at hl 2 rfl) ?_
      refine lv_aload_n hx hb dC_weight_14 rfl (lv_at hl 0 rfl) ?_
      refine lv_iload_n hx hb dC_weight_15 rfl (lv_at hl 1 rfl) ?_
      refine zr_V (As := [.int (nI j)]) (rest := [.int (nI sq)]) (q := (RC, TC, 14)) ⟨hx, hb, hml, hown, hz⟩ (kC_madeBy l G B M x n mb z nf se lo go pa hn hx0 ck hck j hj) (zt_V zm_114 zm_116 zs_3 zm_1 zm_117) rfl rfl rfl (show _ ∧ _ ∧ _ ∧ _ = some 1 from by decide +kernel) ⟨Nat.le_of_ble_eq_true rfl, Nat.le_of_ble_eq_true rfl⟩ zE_blind (zE_at hE hS) hH hK hx0 rfl rfl hl.1 rfl (Nat.le_of_ble_eq_true rfl) dC_weight_16 ⟨Nat.zero_le _, Nat.zero_le _⟩ ?_
      refine zc_le (tgt := 24) hx hb dC_weight_19 (by decide) (by omega) (by have := zb_lt (ck j) j; omega) (fun c3 => ?_) (fun c3 => ?_)
      · refine lv_aload_n hx hb dC_weight_24 rfl (lv_at hl 0 rfl) ?_
        refine va_get (D := G.1) (ci := 1) (v := .ref (z + 4 + n)) (C := RC) (T := TC) (N := 14) hx hb hz iC hown hK (hH.one hx0) 0 rfl rfl 6 (by decide) (hz _ zm_37) (fun _ h9 => h9) rfl dC_weight_25 ?_
        refine lv_iload_n hx hb dC_weight_28 rfl (lv_at hl 1 rfl) ?_
        refine zw_aald hx hb hK hH 4 hwt rfl rfl (j) rfl (hj) (by omega) (v := .ref (z + 5 + n + j)) rfl dC_weight_29 ?_
        refine lv_iload_n hx hb dC_weight_30 rfl (lv_at hl 2 rfl) ?_
        refine lv_iconst (v := nI 1) hx hb dC_weight_31 (by decide) ?_
        refine lv_isub hx hb dC_weight_32 ?_
        refine zw_ti (pk_sub hq1) ?_
        refine zw_iald hx hb hK hH 0 hwj rfl (sq - 1) rfl (by omega) (by decide) dC_weight_33 ?_
        exact W.iret (v := (f (sq - 1))) hx hb hr (fun t ht hW => ⟨rfl, ht⟩) (fun q h => by cases h) dC_weight_34
      · exact absurd c3 (by omega)

set_option maxHeartbeats 4000000 in
set_option maxRecDepth 100000 in
theorem kC_weight_out1 (l : Launch) (G : zG) (B : Nat) (M : zw_M) (x n mb z nf se lo go pa : Nat) (hn : n ≤ 8) (hx0 : M x = some (.inr (1, zoC n mb z nf se lo go pa))) (a sq : Int32) (ha : a < 0 ∨ nI n ≤ a) : Met l yC_weight (Cond.code yC_weight bC_weight 3 (some .int) :: zT) { frames := 1, cells := 0, slots := 0, locals := 21 } (zp G B M [.ref x, .int a, .int sq]) (k2_QcV (.int (-1))) 0 0 (fun _ => False) := by
  refine Met.ofW (cc := bC_weight) (maxL := 3) (ret := (some .int)) (by decide) rfl ?_
  intro p e s m args below meth c s₁ B0 hml hv
  obtain ⟨rfl, hE, hH⟩ := hv
  have hx := B0.exec
  have hb := B0.bytes
  have hr := B0.returns
  have hlocks := B0.notSynchronized
  have hz : ∀ w ∈ zT, w.before _ s = true := fun w h => atoms_spec (ws := Cond.code yC_weight bC_weight 3 (some .int) :: zT) B0.pre w (List.mem_cons_of_mem _ h)
  have hown : s.vm.findClass RC = some m.cls := findClass_of_methodNamed B0.named
  have hK := hE.1
  have hl := lv_entry ([.ref x, .int a, .int sq]) (n := 3) (Nat.le_of_ble_eq_true rfl)
  rw [lg_entry_eq]
  generalize (lg_sl ([.ref x, .int a, .int sq]) ++ List.replicate (3 - (lg_sl ([.ref x, .int a, .int sq])).length) Slot.unset).toArray = ls at hl ⊢
  have hl : lv_has ls 3 [(0, .ref x), (1, .int a), (2, .int sq)] := hl
  have hS : va_S (zw_A B) s.heap s.heap [] := va_S.rf
  refine lv_aload_n hx hb dC_weight_0 rfl (lv_at hl 0 rfl) ?_
  refine lv_iload_n hx hb dC_weight_1 rfl (lv_at hl 1 rfl) ?_
  refine zr_V (As := [.int a]) (rest := []) (q := (RC, TC, 14)) ⟨hx, hb, hml, hown, hz⟩ (kC_isReplica_out l G B M x n mb z nf se lo go pa hn hx0 a ha) (zt_V zm_93 zm_95 zs_2 zm_1 zm_96) rfl rfl rfl (show _ ∧ _ ∧ _ ∧ _ = some 1 from by decide +kernel) ⟨Nat.le_of_ble_eq_true rfl, Nat.le_of_ble_eq_true rfl⟩ zE_blind (zE_at hE hS) hH hK hx0 rfl rfl hl.1 rfl (Nat.le_of_ble_eq_true rfl) dC_weight_2 ⟨Nat.zero_le _, Nat.zero_le _⟩ ?_
  refine zc_eq0 (tgt := 22) hx hb dC_weight_5 (by decide) (by omega) (fun c => ?_) (fun c => ?_)
  · refine lv_iconst (v := (-1)) hx hb dC_weight_22 (by decide) ?_
    exact W.iret (v := (-1)) hx hb hr (fun t ht hW => ⟨rfl, ht⟩) (fun q h => by cases h) dC_weight_23
  · exact absurd rfl c

set_option maxHeartbeats 4000000 in
set_option maxRecDepth 100000 in
theorem kC_weight_out2 (l : Launch) (G : zG) (B : Nat) (M : zw_M) (x n mb z nf se lo go pa : Nat) (hn : n ≤ 8) (hx0 : M x = some (.inr (1, zoC n mb z nf se lo go pa))) (ck : Nat → Int64) (hck : M (z + 1) = some (.inl (G.2.1 1, n, .inr (.inl ck)))) (j : Nat) (sq : Int32) (hj : j < n) (hs : sq < nI 1 ∨ ¬ sq ≤ nI (zb (ck j) j)) : Met l yC_weight (Cond.code yC_weight bC_weight 3 (some .int) :: zT) { frames := 2, cells := 0, slots := 0, locals := 43 } (zp G B M [.ref x, .int (nI j), .int sq]) (k2_QcV (.int (-1))) 0 0 (fun _ => False) := by
  refine Met.ofW (cc := bC_weight) (maxL := 3) (ret := (some .int)) (by decide) rfl ?_
  intro p e s m args below meth c s₁ B0 hml hv
  obtain ⟨rfl, hE, hH⟩ := hv
  have hx := B0.exec
  have hb := B0.bytes
  have hr := B0.returns
  have hlocks := B0.notSynchronized
  have hz : ∀ w ∈ zT, w.before _ s = true := fun w h => atoms_spec (ws := Cond.code yC_weight bC_weight 3 (some .int) :: zT) B0.pre w (List.mem_cons_of_mem _ h)
  have hown : s.vm.findClass RC = some m.cls := findClass_of_methodNamed B0.named
  have hK := hE.1
  have hl := lv_entry ([.ref x, .int (nI j), .int sq]) (n := 3) (Nat.le_of_ble_eq_true rfl)
  rw [lg_entry_eq]
  generalize (lg_sl ([.ref x, .int (nI j), .int sq]) ++ List.replicate (3 - (lg_sl ([.ref x, .int (nI j), .int sq])).length) Slot.unset).toArray = ls at hl ⊢
  have hl : lv_has ls 3 [(0, .ref x), (1, .int (nI j)), (2, .int sq)] := hl
  have hS : va_S (zw_A B) s.heap s.heap [] := va_S.rf
  refine lv_aload_n hx hb dC_weight_0 rfl (lv_at hl 0 rfl) ?_
  refine lv_iload_n hx hb dC_weight_1 rfl (lv_at hl 1 rfl) ?_
  refine zr_V (As := [.int (nI j)]) (rest := []) (q := (RC, TC, 14)) ⟨hx, hb, hml, hown, hz⟩ (kC_isReplica_in l G B M x n mb z nf se lo go pa hn hx0 j hj) (zt_V zm_93 zm_95 zs_2 zm_1 zm_96) rfl rfl rfl (show _ ∧ _ ∧ _ ∧ _ = some 1 from by decide +kernel) ⟨Nat.le_of_ble_eq_true rfl, Nat.le_of_ble_eq_true rfl⟩ zE_blind (zE_at hE hS) hH hK hx0 rfl rfl hl.1 rfl (Nat.le_of_ble_eq_true rfl) dC_weight_2 ⟨Nat.zero_le _, Nat.zero_le _⟩ ?_
  refine zc_eq0 (tgt := 22) hx hb dC_weight_5 (by decide) (by omega) (fun c => ?_) (fun c => ?_)
  · exact absurd c (by decide)
  · refine lv_iload_n hx hb dC_weight_8 rfl (lv_at hl 2 rfl) ?_
    refine lv_iconst (v := nI 1) hx hb dC_weight_9 (by decide) ?_
    refine lv_icmp_lt (tgt := 22) hx hb dC_weight_10 (by decide) (fun c2 => ?_) (fun c2 => ?_)
    · refine lv_iconst (v := (-1)) hx hb dC_weight_22 (by decide) ?_
      exact W.iret (v := (-1)) hx hb hr (fun t ht hW => ⟨rfl, ht⟩) (fun q h => by cases h) dC_weight_23
    · refine lv_iload_n hx hb dC_weight_13 rfl (lv_at hl 2 rfl) ?_
      refine lv_aload_n hx hb dC_weight_14 rfl (lv_at hl 0 rfl) ?_
      refine lv_iload_n hx hb dC_weight_15 rfl (lv_at hl 1 rfl) ?_
      refine zr_V (As := [.int (nI j)]) (rest := [.int sq]) (q := (RC, TC, 14)) ⟨hx, hb, hml, hown, hz⟩ (kC_madeBy l G B M x n mb z nf se lo go pa hn hx0 ck hck j hj) (zt_V zm_114 zm_116 zs_3 zm_1 zm_117) rfl rfl rfl (show _ ∧ _ ∧ _ ∧ _ = some 1 from by decide +kernel) ⟨Nat.le_of_ble_eq_true rfl, Nat.le_of_ble_eq_true rfl⟩ zE_blind (zE_at hE hS) hH hK hx0 rfl rfl hl.1 rfl (Nat.le_of_ble_eq_true rfl) dC_weight_16 ⟨Nat.zero_le _, Nat.zero_le _⟩ ?_
      refine lv_icmp_le (tgt := 24) hx hb dC_weight_19 (by decide) (fun c3 => ?_) (fun c3 => ?_)
      · exact absurd c3 (hs.resolve_left c2)
      · refine lv_iconst (v := (-1)) hx hb dC_weight_22 (by decide) ?_
        exact W.iret (v := (-1)) hx hb hr (fun t ht hW => ⟨rfl, ht⟩) (fun q h => by cases h) dC_weight_23

set_option maxHeartbeats 4000000 in
set_option maxRecDepth 100000 in
theorem kC_log_in (l : Launch) (G : zG) (B : Nat) (M : zw_M) (x n mb z nf se lo go pa : Nat) (hn : n ≤ 8) (hx0 : M x = some (.inr (1, zoC n mb z nf se lo go pa))) (lz : Nat → Nat) (hlz : M (z + 3 + n) = some (.inl (G.2.1 0, n, .inl (fun i => nI (lz i))))) (hlg : M (z + 2) = some (.inl (G.2.1 4, n, .inr (.inr (.inr (.inr (fun i => some (z + 3 + i)))))))) (f : Nat → Int32) (j k : Nat) (hj : j < n) (hlj : M (z + 3 + j) = some (.inl (G.2.1 0, n * 60, .inl f))) (hk : k < lz j) (hk2 : lz j ≤ n * 60) : Met l yC_log (Cond.code yC_log bC_log 3 (some .int) :: zT) { frames := 1, cells := 0, slots := 0, locals := 21 } (zp G B M [.ref x, .int (nI j), .int (nI k)]) (k2_QcV (.int (f k))) 0 0 (fun _ => False) := by
  refine Met.ofW (cc := bC_log) (maxL := 3) (ret := (some .int)) (by decide) rfl ?_
  intro p e s m args below meth c s₁ B0 hml hv
  obtain ⟨rfl, hE, hH⟩ := hv
  have hx := B0.exec
  have hb := B0.bytes
  have hr := B0.returns
  have hlocks := B0.notSynchronized
  have hz : ∀ w ∈ zT, w.before _ s = true := fun w h => atoms_spec (ws := Cond.code yC_log bC_log 3 (some .int) :: zT) B0.pre w (List.mem_cons_of_mem _ h)
  have hown : s.vm.findClass RC = some m.cls := findClass_of_methodNamed B0.named
  have hK := hE.1
  have hl := lv_entry ([.ref x, .int (nI j), .int (nI k)]) (n := 3) (Nat.le_of_ble_eq_true rfl)
  rw [lg_entry_eq]
  generalize (lg_sl ([.ref x, .int (nI j), .int (nI k)]) ++ List.replicate (3 - (lg_sl ([.ref x, .int (nI j), .int (nI k)])).length) Slot.unset).toArray = ls at hl ⊢
  have hl : lv_has ls 3 [(0, .ref x), (1, .int (nI j)), (2, .int (nI k))] := hl
  have hS : va_S (zw_A B) s.heap s.heap [] := va_S.rf
  refine lv_aload_n hx hb dC_log_0 rfl (lv_at hl 0 rfl) ?_
  refine lv_iload_n hx hb dC_log_1 rfl (lv_at hl 1 rfl) ?_
  refine zr_V (As := [.int (nI j)]) (rest := []) (q := (RC, TC, 14)) ⟨hx, hb, hml, hown, hz⟩ (kC_isReplica_in l G B M x n mb z nf se lo go pa hn hx0 j hj) (zt_V zm_93 zm_95 zs_2 zm_1 zm_96) rfl rfl rfl (show _ ∧ _ ∧ _ ∧ _ = some 1 from by decide +kernel) ⟨Nat.le_of_ble_eq_true rfl, Nat.le_of_ble_eq_true rfl⟩ zE_blind (zE_at hE hS) hH hK hx0 rfl rfl hl.1 rfl (Nat.le_of_ble_eq_true rfl) dC_log_2 ⟨Nat.zero_le _, Nat.zero_le _⟩ ?_
  refine zc_eq0 (tgt := 22) hx hb dC_log_5 (by decide) (by omega) (fun c => ?_) (fun c => ?_)
  · exact absurd c (by decide)
  · refine lv_iload_n hx hb dC_log_8 rfl (lv_at hl 2 rfl) ?_
    refine lv_if_lt (tgt := 22) hx hb dC_log_9 (by decide) (fun c2 => ?_) (fun c2 => ?_)
    · exact absurd c2 (nI_pos (by omega))
    · refine lv_iload_n hx hb dC_log_12 rfl (lv_at hl 2 rfl) ?_
      refine lv_aload_n hx hb dC_log_13 rfl (lv_at hl 0 rfl) ?_
      refine va_get (D := G.1) (ci := 1) (v := .ref (z + 3 + n)) (C := RC) (T := TC) (N := 14) hx hb hz iC hown hK (hH.one hx0) 0 rfl rfl 5 (by decide) (hz _ zm_36) (fun _ h9 => h9) rfl dC_log_14 ?_
      refine lv_iload_n hx hb dC_log_17 rfl (lv_at hl 1 rfl) ?_
      refine zw_iald hx hb hK hH 0 hlz rfl (j) rfl (hj) (by omega) dC_log_18 ?_
      refine zc_lt (tgt := 24) hx hb dC_log_19 (by decide) (by omega) (by omega) (fun c3 => ?_) (fun c3 => ?_)
      · refine lv_aload_n hx hb dC_log_24 rfl (lv_at hl 0 rfl) ?_
        refine va_get (D := G.1) (ci := 1) (v := .ref (z + 2)) (C := RC) (T := TC) (N := 14) hx hb hz iC hown hK (hH.one hx0) 0 rfl rfl 4 (by decide) (hz _ zm_35) (fun _ h9 => h9) rfl dC_log_25 ?_
        refine lv_iload_n hx hb dC_log_28 rfl (lv_at hl 1 rfl) ?_
        refine zw_aald hx hb hK hH 4 hlg rfl rfl (j) rfl (hj) (by omega) (v := .ref (z + 3 + j)) rfl dC_log_29 ?_
        refine lv_iload_n hx hb dC_log_30 rfl (lv_at hl 2 rfl) ?_
        refine zw_iald hx hb hK hH 0 hlj rfl (k) rfl (by omega) (by omega) dC_log_31 ?_
        exact W.iret (v := (f k)) hx hb hr (fun t ht hW => ⟨rfl, ht⟩) (fun q h => by cases h) dC_log_32
      · exact absurd c3 (by omega)

set_option maxHeartbeats 4000000 in
set_option maxRecDepth 100000 in
theorem kC_log_out1 (l : Launch) (G : zG) (B : Nat) (M : zw_M) (x n mb z nf se lo go pa : Nat) (hn : n ≤ 8) (hx0 : M x = some (.inr (1, zoC n mb z nf se lo go pa))) (a k : Int32) (ha : a < 0 ∨ nI n ≤ a) : Met l yC_log (Cond.code yC_log bC_log 3 (some .int) :: zT) { frames := 1, cells := 0, slots := 0, locals := 21 } (zp G B M [.ref x, .int a, .int k]) (k2_QcV (.int (-1))) 0 0 (fun _ => False) := by
  refine Met.ofW (cc := bC_log) (maxL := 3) (ret := (some .int)) (by decide) rfl ?_
  intro p e s m args below meth c s₁ B0 hml hv
  obtain ⟨rfl, hE, hH⟩ := hv
  have hx := B0.exec
  have hb := B0.bytes
  have hr := B0.returns
  have hlocks := B0.notSynchronized
  have hz : ∀ w ∈ zT, w.before _ s = true := fun w h => atoms_spec (ws := Cond.code yC_log bC_log 3 (some .int) :: zT) B0.pre w (List.mem_cons_of_mem _ h)
  have hown : s.vm.findClass RC = some m.cls := findClass_of_methodNamed B0.named
  have hK := hE.1
  have hl := lv_entry ([.ref x, .int a, .int k]) (n := 3) (Nat.le_of_ble_eq_true rfl)
  rw [lg_entry_eq]
  generalize (lg_sl ([.ref x, .int a, .int k]) ++ List.replicate (3 - (lg_sl ([.ref x, .int a, .int k])).length) Slot.unset).toArray = ls at hl ⊢
  have hl : lv_has ls 3 [(0, .ref x), (1, .int a), (2, .int k)] := hl
  have hS : va_S (zw_A B) s.heap s.heap [] := va_S.rf
  refine lv_aload_n hx hb dC_log_0 rfl (lv_at hl 0 rfl) ?_
  refine lv_iload_n hx hb dC_log_1 rfl (lv_at hl 1 rfl) ?_
  refine zr_V (As := [.int a]) (rest := []) (q := (RC, TC, 14)) ⟨hx, hb, hml, hown, hz⟩ (kC_isReplica_out l G B M x n mb z nf se lo go pa hn hx0 a ha) (zt_V zm_93 zm_95 zs_2 zm_1 zm_96) rfl rfl rfl (show _ ∧ _ ∧ _ ∧ _ = some 1 from by decide +kernel) ⟨Nat.le_of_ble_eq_true rfl, Nat.le_of_ble_eq_true rfl⟩ zE_blind (zE_at hE hS) hH hK hx0 rfl rfl hl.1 rfl (Nat.le_of_ble_eq_true rfl) dC_log_2 ⟨Nat.zero_le _, Nat.zero_le _⟩ ?_
  refine zc_eq0 (tgt := 22) hx hb dC_log_5 (by decide) (by omega) (fun c => ?_) (fun c => ?_)
  · refine lv_iconst (v := (-1)) hx hb dC_log_22 (by decide) ?_
    exact W.iret (v := (-1)) hx hb hr (fun t ht hW => ⟨rfl, ht⟩) (fun q h => by cases h) dC_log_23
  · exact absurd rfl c

set_option maxHeartbeats 4000000 in
set_option maxRecDepth 100000 in
theorem kC_log_out2 (l : Launch) (G : zG) (B : Nat) (M : zw_M) (x n mb z nf se lo go pa : Nat) (hn : n ≤ 8) (hx0 : M x = some (.inr (1, zoC n mb z nf se lo go pa))) (lz : Nat → Nat) (hlz : M (z + 3 + n) = some (.inl (G.2.1 0, n, .inl (fun i => nI (lz i))))) (j : Nat) (k : Int32) (hj : j < n) (hk : k < 0 ∨ ¬ k < nI (lz j)) : Met l yC_log (Cond.code yC_log bC_log 3 (some .int) :: zT) { frames := 1, cells := 0, slots := 0, locals := 21 } (zp G B M [.ref x, .int (nI j), .int k]) (k2_QcV (.int (-1))) 0 0 (fun _ => False) := by
  refine Met.ofW (cc := bC_log) (maxL := 3) (ret := (some .int)) (by decide) rfl ?_
  intro p e s m args below meth c s₁ B0 hml hv
  obtain ⟨rfl, hE, hH⟩ := hv
  have hx := B0.exec
  have hb := B0.bytes
  have hr := B0.returns
  have hlocks := B0.notSynchronized
  have hz : ∀ w ∈ zT, w.before _ s = true := fun w h => atoms_spec (ws := Cond.code yC_log bC_log 3 (some .int) :: zT) B0.pre w (List.mem_cons_of_mem _ h)
  have hown : s.vm.findClass RC = some m.cls := findClass_of_methodNamed B0.named
  have hK := hE.1
  have hl := lv_entry ([.ref x, .int (nI j), .int k]) (n := 3) (Nat.le_of_ble_eq_true rfl)
  rw [lg_entry_eq]
  generalize (lg_sl ([.ref x, .int (nI j), .int k]) ++ List.replicate (3 - (lg_sl ([.ref x, .int (nI j), .int k])).length) Slot.unset).toArray = ls at hl ⊢
  have hl : lv_has ls 3 [(0, .ref x), (1, .int (nI j)), (2, .int k)] := hl
  have hS : va_S (zw_A B) s.heap s.heap [] := va_S.rf
  refine lv_aload_n hx hb dC_log_0 rfl (lv_at hl 0 rfl) ?_
  refine lv_iload_n hx hb dC_log_1 rfl (lv_at hl 1 rfl) ?_
  refine zr_V (As := [.int (nI j)]) (rest := []) (q := (RC, TC, 14)) ⟨hx, hb, hml, hown, hz⟩ (kC_isReplica_in l G B M x n mb z nf se lo go pa hn hx0 j hj) (zt_V zm_93 zm_95 zs_2 zm_1 zm_96) rfl rfl rfl (show _ ∧ _ ∧ _ ∧ _ = some 1 from by decide +kernel) ⟨Nat.le_of_ble_eq_true rfl, Nat.le_of_ble_eq_true rfl⟩ zE_blind (zE_at hE hS) hH hK hx0 rfl rfl hl.1 rfl (Nat.le_of_ble_eq_true rfl) dC_log_2 ⟨Nat.zero_le _, Nat.zero_le _⟩ ?_
  refine zc_eq0 (tgt := 22) hx hb dC_log_5 (by decide) (by omega) (fun c => ?_) (fun c => ?_)
  · exact absurd c (by decide)
  · refine lv_iload_n hx hb dC_log_8 rfl (lv_at hl 2 rfl) ?_
    refine lv_if_lt (tgt := 22) hx hb dC_log_9 (by decide) (fun c2 => ?_) (fun c2 => ?_)
    · refine lv_iconst (v := (-1)) hx hb dC_log_22 (by decide) ?_
      exact W.iret (v := (-1)) hx hb hr (fun t ht hW => ⟨rfl, ht⟩) (fun q h => by cases h) dC_log_23
    · refine lv_iload_n hx hb dC_log_12 rfl (lv_at hl 2 rfl) ?_
      refine lv_aload_n hx hb dC_log_13 rfl (lv_at hl 0 rfl) ?_
      refine va_get (D := G.1) (ci := 1) (v := .ref (z + 3 + n)) (C := RC) (T := TC) (N := 14) hx hb hz iC hown hK (hH.one hx0) 0 rfl rfl 5 (by decide) (hz _ zm_36) (fun _ h9 => h9) rfl dC_log_14 ?_
      refine lv_iload_n hx hb dC_log_17 rfl (lv_at hl 1 rfl) ?_
      refine zw_iald hx hb hK hH 0 hlz rfl (j) rfl (hj) (by omega) dC_log_18 ?_
      refine lv_icmp_lt (tgt := 24) hx hb dC_log_19 (by decide) (fun c3 => ?_) (fun c3 => ?_)
      · exact absurd c3 (hk.resolve_left c2)
      · refine lv_iconst (v := (-1)) hx hb dC_log_22 (by decide) ?_
        exact W.iret (v := (-1)) hx hb hr (fun t ht hW => ⟨rfl, ht⟩) (fun q h => by cases h) dC_log_23

set_option maxHeartbeats 4000000 in
set_option maxRecDepth 100000 in
theorem kC_told_in (l : Launch) (G : zG) (B : Nat) (M : zw_M) (x n mb z nf se lo go pa : Nat) (hn : n ≤ 8) (hx0 : M x = some (.inr (1, zoC n mb z nf se lo go pa))) (ff : Nat → Option Nat) (hfl : M (z + 5 + 2 * n) = some (.inl (G.2.1 3, 120, .inr (.inr (.inr (.inr ff)))))) (hnf : nf ≤ 120) (j : Nat) (hj : j < nf) (q : Nat) (num snd rcv byt : Int32) (told : Int64) (ch : Nat) (hq0 : M q = some (.inr (0, zoM num snd rcv byt told ch))) (hq : ff j = some q) : Met l yC_told (Cond.code yC_told bC_told 3 (some .long) :: zT) { frames := 1, cells := 0, slots := 0, locals := 21 } (zp G B M [.ref x, .int (nI j)]) (k2_QcV (.long told)) 0 0 (fun _ => False) := by
  refine Met.ofW (cc := bC_told) (maxL := 3) (ret := (some .long)) (by decide) rfl ?_
  intro p e s m args below meth c s₁ B0 hml hv
  obtain ⟨rfl, hE, hH⟩ := hv
  have hx := B0.exec
  have hb := B0.bytes
  have hr := B0.returns
  have hlocks := B0.notSynchronized
  have hz : ∀ w ∈ zT, w.before _ s = true := fun w h => atoms_spec (ws := Cond.code yC_told bC_told 3 (some .long) :: zT) B0.pre w (List.mem_cons_of_mem _ h)
  have hown : s.vm.findClass RC = some m.cls := findClass_of_methodNamed B0.named
  have hK := hE.1
  have hl := lv_entry ([.ref x, .int (nI j)]) (n := 3) (Nat.le_of_ble_eq_true rfl)
  rw [lg_entry_eq]
  generalize (lg_sl ([.ref x, .int (nI j)]) ++ List.replicate (3 - (lg_sl ([.ref x, .int (nI j)])).length) Slot.unset).toArray = ls at hl ⊢
  have hl : lv_has ls 3 [(0, .ref x), (1, .int (nI j))] := hl
  have hS : va_S (zw_A B) s.heap s.heap [] := va_S.rf
  refine lv_aload_n hx hb dC_told_0 rfl (lv_at hl 0 rfl) ?_
  refine lv_iload_n hx hb dC_told_1 rfl (lv_at hl 1 rfl) ?_
  refine zr_V (As := [.int (nI j)]) (rest := []) (q := (RC, TC, 14)) ⟨hx, hb, hml, hown, hz⟩ (kC_messageAt_in l G B M x n mb z nf se lo go pa hn hx0 ff hfl hnf j q hj hq) (zt_V zm_81 zm_83 zs_0 zm_1 zm_84) rfl rfl rfl (show _ ∧ _ ∧ _ ∧ _ = some 1 from by decide +kernel) ⟨Nat.le_of_ble_eq_true rfl, Nat.le_of_ble_eq_true rfl⟩ zE_blind (zE_at hE hS) hH hK hx0 rfl rfl hl.1 rfl (Nat.le_of_ble_eq_true rfl) dC_told_2 ⟨Nat.zero_le _, Nat.zero_le _⟩ ?_
  refine lv_astore_n (lv' := [(2, .ref q), (0, .ref x), (1, .int (nI j))]) hx hb dC_told_5 rfl hl (by decide) rfl (fun ls hl => ?_)
  refine lv_aload_n hx hb dC_told_6 rfl (lv_at hl 0 rfl) ?_
  refine lv_ifnonnull (tgt := 16) hx hb dC_told_7 (by decide) ?_
  refine lv_aload_n hx hb dC_told_16 rfl (lv_at hl 0 rfl) ?_
  refine va_get (D := G.1) (ci := 0) (v := .long told) (C := RM) (T := TM) (N := 6) hx hb hz iM hown hK (hH.one hq0) 0 rfl rfl 4 (by decide) (hz _ zm_292) (fun _ h9 => h9) rfl dC_told_17 ?_
  exact W.lret (v := told) hx hb hr (fun t ht hW => ⟨rfl, ht⟩) (fun q h => by cases h) dC_told_20

set_option maxHeartbeats 4000000 in
set_option maxRecDepth 100000 in
theorem kC_told_out (l : Launch) (G : zG) (B : Nat) (M : zw_M) (x n mb z nf se lo go pa : Nat) (hn : n ≤ 8) (hx0 : M x = some (.inr (1, zoC n mb z nf se lo go pa))) (a : Int32) (ha : a < 0 ∨ nI nf ≤ a) : Met l yC_told (Cond.code yC_told bC_told 3 (some .long) :: zT) { frames := 1, cells := 0, slots := 0, locals := 21 } (zp G B M [.ref x, .int a]) (k2_QcV (.long (-1))) 0 0 (fun _ => False) := by
  refine Met.ofW (cc := bC_told) (maxL := 3) (ret := (some .long)) (by decide) rfl ?_
  intro p e s m args below meth c s₁ B0 hml hv
  obtain ⟨rfl, hE, hH⟩ := hv
  have hx := B0.exec
  have hb := B0.bytes
  have hr := B0.returns
  have hlocks := B0.notSynchronized
  have hz : ∀ w ∈ zT, w.before _ s = true := fun w h => atoms_spec (ws := Cond.code yC_told bC_told 3 (some .long) :: zT) B0.pre w (List.mem_cons_of_mem _ h)
  have hown : s.vm.findClass RC = some m.cls := findClass_of_methodNamed B0.named
  have hK := hE.1
  have hl := lv_entry ([.ref x, .int a]) (n := 3) (Nat.le_of_ble_eq_true rfl)
  rw [lg_entry_eq]
  generalize (lg_sl ([.ref x, .int a]) ++ List.replicate (3 - (lg_sl ([.ref x, .int a])).length) Slot.unset).toArray = ls at hl ⊢
  have hl : lv_has ls 3 [(0, .ref x), (1, .int a)] := hl
  have hS : va_S (zw_A B) s.heap s.heap [] := va_S.rf
  refine lv_aload_n hx hb dC_told_0 rfl (lv_at hl 0 rfl) ?_
  refine lv_iload_n hx hb dC_told_1 rfl (lv_at hl 1 rfl) ?_
  refine zr_V (As := [.int a]) (rest := []) (q := (RC, TC, 14)) ⟨hx, hb, hml, hown, hz⟩ (kC_messageAt_out l G B M x n mb z nf se lo go pa hn hx0 a ha) (zt_V zm_81 zm_83 zs_0 zm_1 zm_84) rfl rfl rfl (show _ ∧ _ ∧ _ ∧ _ = some 1 from by decide +kernel) ⟨Nat.le_of_ble_eq_true rfl, Nat.le_of_ble_eq_true rfl⟩ zE_blind (zE_at hE hS) hH hK hx0 rfl rfl hl.1 rfl (Nat.le_of_ble_eq_true rfl) dC_told_2 ⟨Nat.zero_le _, Nat.zero_le _⟩ ?_
  refine lv_astore_nN (lv' := [(2, .null), (0, .ref x), (1, .int a)]) hx hb dC_told_5 rfl hl (by decide) rfl (fun ls hl => ?_)
  refine lv_aload_nN hx hb dC_told_6 rfl (lv_at hl 0 rfl) ?_
  refine lv_ifnonnullN hx hb dC_told_7 ?_
  refine lv_ldc2 hx hb hown (hz _ zm_105) dC_told_10 ?_
  refine lv_goto (tgt := 20) hx hb dC_told_13 (by decide) ?_
  exact W.lret (v := (-1)) hx hb hr (fun t ht hW => ⟨rfl, ht⟩) (fun q h => by cases h) dC_told_20

set_option maxHeartbeats 4000000 in
set_option maxRecDepth 100000 in
theorem kC_inside_in (l : Launch) (G : zG) (B : Nat) (M : zw_M) (x n mb z nf se lo go pa : Nat) (hn : n ≤ 8) (hx0 : M x = some (.inr (1, zoC n mb z nf se lo go pa))) (ff : Nat → Option Nat) (hfl : M (z + 5 + 2 * n) = some (.inl (G.2.1 3, 120, .inr (.inr (.inr (.inr ff)))))) (hnf : nf ≤ 120) (j : Nat) (hj : j < nf) (q : Nat) (num snd rcv byt : Int32) (told : Int64) (ch : Nat) (hq0 : M q = some (.inr (0, zoM num snd rcv byt told ch))) (hq : ff j = some q) (len : Nat) (f : Nat → Int32) (hch : M ch = some (.inl (G.2.1 0, len, .inl f))) (hlen : len ≤ 480) (k : Nat) (hk : k < len) : Met l yC_inside (Cond.code yC_inside bC_inside 4 (some .int) :: zT) { frames := 1, cells := 0, slots := 0, locals := 21 } (zp G B M [.ref x, .int (nI j), .int (nI k)]) (k2_QcV (.int (f k))) 0 0 (fun _ => False) := by
  refine Met.ofW (cc := bC_inside) (maxL := 4) (ret := (some .int)) (by decide) rfl ?_
  intro p e s m args below meth c s₁ B0 hml hv
  obtain ⟨rfl, hE, hH⟩ := hv
  have hx := B0.exec
  have hb := B0.bytes
  have hr := B0.returns
  have hlocks := B0.notSynchronized
  have hz : ∀ w ∈ zT, w.before _ s = true := fun w h => atoms_spec (ws := Cond.code yC_inside bC_inside 4 (some .int) :: zT) B0.pre w (List.mem_cons_of_mem _ h)
  have hown : s.vm.findClass RC = some m.cls := findClass_of_methodNamed B0.named
  have hK := hE.1
  have hl := lv_entry ([.ref x, .int (nI j), .int (nI k)]) (n := 4) (Nat.le_of_ble_eq_true rfl)
  rw [lg_entry_eq]
  generalize (lg_sl ([.ref x, .int (nI j), .int (nI k)]) ++ List.replicate (4 - (lg_sl ([.ref x, .int (nI j), .int (nI k)])).length) Slot.unset).toArray = ls at hl ⊢
  have hl : lv_has ls 4 [(0, .ref x), (1, .int (nI j)), (2, .int (nI k))] := hl
  have hS : va_S (zw_A B) s.heap s.heap [] := va_S.rf
  refine lv_aload_n hx hb dC_inside_0 rfl (lv_at hl 0 rfl) ?_
  refine lv_iload_n hx hb dC_inside_1 rfl (lv_at hl 1 rfl) ?_
  refine zr_V (As := [.int (nI j)]) (rest := []) (q := (RC, TC, 14)) ⟨hx, hb, hml, hown, hz⟩ (kC_messageAt_in l G B M x n mb z nf se lo go pa hn hx0 ff hfl hnf j q hj hq) (zt_V zm_81 zm_83 zs_0 zm_1 zm_84) rfl rfl rfl (show _ ∧ _ ∧ _ ∧ _ = some 1 from by decide +kernel) ⟨Nat.le_of_ble_eq_true rfl, Nat.le_of_ble_eq_true rfl⟩ zE_blind (zE_at hE hS) hH hK hx0 rfl rfl hl.1 rfl (Nat.le_of_ble_eq_true rfl) dC_inside_2 ⟨Nat.zero_le _, Nat.zero_le _⟩ ?_
  refine lv_astore_n (lv' := [(3, .ref q), (0, .ref x), (1, .int (nI j)), (2, .int (nI k))]) hx hb dC_inside_5 rfl hl (by decide) rfl (fun ls hl => ?_)
  refine lv_aload_n hx hb dC_inside_6 rfl (lv_at hl 0 rfl) ?_
  refine lv_ifnull hx hb dC_inside_7 ?_
  refine lv_iload_n hx hb dC_inside_10 rfl (lv_at hl 3 rfl) ?_
  refine lv_if_lt (tgt := 23) hx hb dC_inside_11 (by decide) (fun c => ?_) (fun c => ?_)
  · exact absurd c (nI_pos (by omega))
  · refine lv_iload_n hx hb dC_inside_14 rfl (lv_at hl 3 rfl) ?_
    refine lv_aload_n hx hb dC_inside_15 rfl (lv_at hl 0 rfl) ?_
    refine va_get (D := G.1) (ci := 0) (v := .ref ch) (C := RM) (T := TM) (N := 6) hx hb hz iM hown hK (hH.one hq0) 0 rfl rfl 5 (by decide) (hz _ zm_294) (fun _ h9 => h9) rfl dC_inside_16 ?_
    refine zw_alen hx hb hK hH 0 hch rfl dC_inside_19 ?_
    refine zc_lt (tgt := 25) hx hb dC_inside_20 (by decide) (by omega) (by omega) (fun c2 => ?_) (fun c2 => ?_)
    · refine lv_aload_n hx hb dC_inside_25 rfl (lv_at hl 0 rfl) ?_
      refine va_get (D := G.1) (ci := 0) (v := .ref ch) (C := RM) (T := TM) (N := 6) hx hb hz iM hown hK (hH.one hq0) 0 rfl rfl 5 (by decide) (hz _ zm_294) (fun _ h9 => h9) rfl dC_inside_26 ?_
      refine lv_iload_n hx hb dC_inside_29 rfl (lv_at hl 3 rfl) ?_
      refine zw_iald hx hb hK hH 0 hch rfl (k) rfl (hk) (by omega) dC_inside_30 ?_
      exact W.iret (v := (f k)) hx hb hr (fun t ht hW => ⟨rfl, ht⟩) (fun q h => by cases h) dC_inside_31
    · exact absurd c2 (by omega)

set_option maxHeartbeats 4000000 in
set_option maxRecDepth 100000 in
theorem kC_inside_out2 (l : Launch) (G : zG) (B : Nat) (M : zw_M) (x n mb z nf se lo go pa : Nat) (hn : n ≤ 8) (hx0 : M x = some (.inr (1, zoC n mb z nf se lo go pa))) (ff : Nat → Option Nat) (hfl : M (z + 5 + 2 * n) = some (.inl (G.2.1 3, 120, .inr (.inr (.inr (.inr ff)))))) (hnf : nf ≤ 120) (j : Nat) (hj : j < nf) (q : Nat) (num snd rcv byt : Int32) (told : Int64) (ch : Nat) (hq0 : M q = some (.inr (0, zoM num snd rcv byt told ch))) (hq : ff j = some q) (len : Nat) (f : Nat → Int32) (hch : M ch = some (.inl (G.2.1 0, len, .inl f))) (hlen : len ≤ 480) (k : Int32) (hk : k < 0 ∨ ¬ k < nI len) : Met l yC_inside (Cond.code yC_inside bC_inside 4 (some .int) :: zT) { frames := 1, cells := 0, slots := 0, locals := 21 } (zp G B M [.ref x, .int (nI j), .int k]) (k2_QcV (.int (-1))) 0 0 (fun _ => False) := by
  refine Met.ofW (cc := bC_inside) (maxL := 4) (ret := (some .int)) (by decide) rfl ?_
  intro p e s m args below meth c s₁ B0 hml hv
  obtain ⟨rfl, hE, hH⟩ := hv
  have hx := B0.exec
  have hb := B0.bytes
  have hr := B0.returns
  have hlocks := B0.notSynchronized
  have hz : ∀ w ∈ zT, w.before _ s = true := fun w h => atoms_spec (ws := Cond.code yC_inside bC_inside 4 (some .int) :: zT) B0.pre w (List.mem_cons_of_mem _ h)
  have hown : s.vm.findClass RC = some m.cls := findClass_of_methodNamed B0.named
  have hK := hE.1
  have hl := lv_entry ([.ref x, .int (nI j), .int k]) (n := 4) (Nat.le_of_ble_eq_true rfl)
  rw [lg_entry_eq]
  generalize (lg_sl ([.ref x, .int (nI j), .int k]) ++ List.replicate (4 - (lg_sl ([.ref x, .int (nI j), .int k])).length) Slot.unset).toArray = ls at hl ⊢
  have hl : lv_has ls 4 [(0, .ref x), (1, .int (nI j)), (2, .int k)] := hl
  have hS : va_S (zw_A B) s.heap s.heap [] := va_S.rf
  refine lv_aload_n hx hb dC_inside_0 rfl (lv_at hl 0 rfl) ?_
  refine lv_iload_n hx hb dC_inside_1 rfl (lv_at hl 1 rfl) ?_
  refine zr_V (As := [.int (nI j)]) (rest := []) (q := (RC, TC, 14)) ⟨hx, hb, hml, hown, hz⟩ (kC_messageAt_in l G B M x n mb z nf se lo go pa hn hx0 ff hfl hnf j q hj hq) (zt_V zm_81 zm_83 zs_0 zm_1 zm_84) rfl rfl rfl (show _ ∧ _ ∧ _ ∧ _ = some 1 from by decide +kernel) ⟨Nat.le_of_ble_eq_true rfl, Nat.le_of_ble_eq_true rfl⟩ zE_blind (zE_at hE hS) hH hK hx0 rfl rfl hl.1 rfl (Nat.le_of_ble_eq_true rfl) dC_inside_2 ⟨Nat.zero_le _, Nat.zero_le _⟩ ?_
  refine lv_astore_n (lv' := [(3, .ref q), (0, .ref x), (1, .int (nI j)), (2, .int k)]) hx hb dC_inside_5 rfl hl (by decide) rfl (fun ls hl => ?_)
  refine lv_aload_n hx hb dC_inside_6 rfl (lv_at hl 0 rfl) ?_
  refine lv_ifnull hx hb dC_inside_7 ?_
  refine lv_iload_n hx hb dC_inside_10 rfl (lv_at hl 3 rfl) ?_
  refine lv_if_lt (tgt := 23) hx hb dC_inside_11 (by decide) (fun c => ?_) (fun c => ?_)
  · refine lv_iconst (v := (-1)) hx hb dC_inside_23 (by decide) ?_
    exact W.iret (v := (-1)) hx hb hr (fun t ht hW => ⟨rfl, ht⟩) (fun q h => by cases h) dC_inside_24
  · refine lv_iload_n hx hb dC_inside_14 rfl (lv_at hl 3 rfl) ?_
    refine lv_aload_n hx hb dC_inside_15 rfl (lv_at hl 0 rfl) ?_
    refine va_get (D := G.1) (ci := 0) (v := .ref ch) (C := RM) (T := TM) (N := 6) hx hb hz iM hown hK (hH.one hq0) 0 rfl rfl 5 (by decide) (hz _ zm_294) (fun _ h9 => h9) rfl dC_inside_16 ?_
    refine zw_alen hx hb hK hH 0 hch rfl dC_inside_19 ?_
    refine lv_icmp_lt (tgt := 25) hx hb dC_inside_20 (by decide) (fun c2 => ?_) (fun c2 => ?_)
    · exact absurd c2 (hk.resolve_left c)
    · refine lv_iconst (v := (-1)) hx hb dC_inside_23 (by decide) ?_
      exact W.iret (v := (-1)) hx hb hr (fun t ht hW => ⟨rfl, ht⟩) (fun q h => by cases h) dC_inside_24

set_option maxHeartbeats 4000000 in
set_option maxRecDepth 100000 in
theorem kC_inside_clock (l : Launch) (G : zG) (B : Nat) (M : zw_M) (x n mb z nf se lo go pa : Nat) (hn : n ≤ 8) (hx0 : M x = some (.inr (1, zoC n mb z nf se lo go pa))) (ff : Nat → Option Nat) (hfl : M (z + 5 + 2 * n) = some (.inl (G.2.1 3, 120, .inr (.inr (.inr (.inr ff)))))) (hnf : nf ≤ 120) (j : Nat) (hj : j < nf) (q : Nat) (num snd rcv byt : Int32) (told : Int64) (ch : Nat) (hq0 : M q = some (.inr (0, zoM num snd rcv byt told ch))) (hq : ff j = some q) (hct : ch = G.2.2) (k : Int32) : Met l yC_inside (Cond.code yC_inside bC_inside 4 (some .int) :: zT) { frames := 1, cells := 0, slots := 0, locals := 21 } (zp G B M [.ref x, .int (nI j), .int k]) (k2_QcV (.int (-1))) 0 0 (fun _ => False) := by
  refine Met.ofW (cc := bC_inside) (maxL := 4) (ret := (some .int)) (by decide) rfl ?_
  intro p e s m args below meth c s₁ B0 hml hv
  obtain ⟨rfl, hE, hH⟩ := hv
  have hx := B0.exec
  have hb := B0.bytes
  have hr := B0.returns
  have hlocks := B0.notSynchronized
  have hz : ∀ w ∈ zT, w.before _ s = true := fun w h => atoms_spec (ws := Cond.code yC_inside bC_inside 4 (some .int) :: zT) B0.pre w (List.mem_cons_of_mem _ h)
  have hown : s.vm.findClass RC = some m.cls := findClass_of_methodNamed B0.named
  have hK := hE.1
  have hl := lv_entry ([.ref x, .int (nI j), .int k]) (n := 4) (Nat.le_of_ble_eq_true rfl)
  rw [lg_entry_eq]
  generalize (lg_sl ([.ref x, .int (nI j), .int k]) ++ List.replicate (4 - (lg_sl ([.ref x, .int (nI j), .int k])).length) Slot.unset).toArray = ls at hl ⊢
  have hl : lv_has ls 4 [(0, .ref x), (1, .int (nI j)), (2, .int k)] := hl
  have hS : va_S (zw_A B) s.heap s.heap [] := va_S.rf
  refine lv_aload_n hx hb dC_inside_0 rfl (lv_at hl 0 rfl) ?_
  refine lv_iload_n hx hb dC_inside_1 rfl (lv_at hl 1 rfl) ?_
  refine zr_V (As := [.int (nI j)]) (rest := []) (q := (RC, TC, 14)) ⟨hx, hb, hml, hown, hz⟩ (kC_messageAt_in l G B M x n mb z nf se lo go pa hn hx0 ff hfl hnf j q hj hq) (zt_V zm_81 zm_83 zs_0 zm_1 zm_84) rfl rfl rfl (show _ ∧ _ ∧ _ ∧ _ = some 1 from by decide +kernel) ⟨Nat.le_of_ble_eq_true rfl, Nat.le_of_ble_eq_true rfl⟩ zE_blind (zE_at hE hS) hH hK hx0 rfl rfl hl.1 rfl (Nat.le_of_ble_eq_true rfl) dC_inside_2 ⟨Nat.zero_le _, Nat.zero_le _⟩ ?_
  refine lv_astore_n (lv' := [(3, .ref q), (0, .ref x), (1, .int (nI j)), (2, .int k)]) hx hb dC_inside_5 rfl hl (by decide) rfl (fun ls hl => ?_)
  refine lv_aload_n hx hb dC_inside_6 rfl (lv_at hl 0 rfl) ?_
  refine lv_ifnull hx hb dC_inside_7 ?_
  refine lv_iload_n hx hb dC_inside_10 rfl (lv_at hl 3 rfl) ?_
  refine lv_if_lt (tgt := 23) hx hb dC_inside_11 (by decide) (fun c => ?_) (fun c => ?_)
  · refine lv_iconst (v := (-1)) hx hb dC_inside_23 (by decide) ?_
    exact W.iret (v := (-1)) hx hb hr (fun t ht hW => ⟨rfl, ht⟩) (fun q h => by cases h) dC_inside_24
  · refine lv_iload_n hx hb dC_inside_14 rfl (lv_at hl 3 rfl) ?_
    refine lv_aload_n hx hb dC_inside_15 rfl (lv_at hl 0 rfl) ?_
    refine va_get (D := G.1) (ci := 0) (v := .ref ch) (C := RM) (T := TM) (N := 6) hx hb hz iM hown hK (hH.one hq0) 0 rfl rfl 5 (by decide) (hz _ zm_294) (fun _ h9 => h9) rfl dC_inside_16 ?_
    rw [hct]
    refine va_tlen (v := nI 0) hx hb hE.2.2.2.1 hS rfl dC_inside_19 ?_
    refine lv_icmp_lt (tgt := 25) hx hb dC_inside_20 (by decide) (fun c2 => ?_) (fun c2 => ?_)
    · exact absurd (by rw [← nI_0]; exact c2) c
    · refine lv_iconst (v := (-1)) hx hb dC_inside_23 (by decide) ?_
      exact W.iret (v := (-1)) hx hb hr (fun t ht hW => ⟨rfl, ht⟩) (fun q h => by cases h) dC_inside_24

set_option maxHeartbeats 4000000 in
set_option maxRecDepth 100000 in
theorem kC_inside_out1 (l : Launch) (G : zG) (B : Nat) (M : zw_M) (x n mb z nf se lo go pa : Nat) (hn : n ≤ 8) (hx0 : M x = some (.inr (1, zoC n mb z nf se lo go pa))) (a k : Int32) (ha : a < 0 ∨ nI nf ≤ a) : Met l yC_inside (Cond.code yC_inside bC_inside 4 (some .int) :: zT) { frames := 1, cells := 0, slots := 0, locals := 21 } (zp G B M [.ref x, .int a, .int k]) (k2_QcV (.int (-1))) 0 0 (fun _ => False) := by
  refine Met.ofW (cc := bC_inside) (maxL := 4) (ret := (some .int)) (by decide) rfl ?_
  intro p e s m args below meth c s₁ B0 hml hv
  obtain ⟨rfl, hE, hH⟩ := hv
  have hx := B0.exec
  have hb := B0.bytes
  have hr := B0.returns
  have hlocks := B0.notSynchronized
  have hz : ∀ w ∈ zT, w.before _ s = true := fun w h => atoms_spec (ws := Cond.code yC_inside bC_inside 4 (some .int) :: zT) B0.pre w (List.mem_cons_of_mem _ h)
  have hown : s.vm.findClass RC = some m.cls := findClass_of_methodNamed B0.named
  have hK := hE.1
  have hl := lv_entry ([.ref x, .int a, .int k]) (n := 4) (Nat.le_of_ble_eq_true rfl)
  rw [lg_entry_eq]
  generalize (lg_sl ([.ref x, .int a, .int k]) ++ List.replicate (4 - (lg_sl ([.ref x, .int a, .int k])).length) Slot.unset).toArray = ls at hl ⊢
  have hl : lv_has ls 4 [(0, .ref x), (1, .int a), (2, .int k)] := hl
  have hS : va_S (zw_A B) s.heap s.heap [] := va_S.rf
  refine lv_aload_n hx hb dC_inside_0 rfl (lv_at hl 0 rfl) ?_
  refine lv_iload_n hx hb dC_inside_1 rfl (lv_at hl 1 rfl) ?_
  refine zr_V (As := [.int a]) (rest := []) (q := (RC, TC, 14)) ⟨hx, hb, hml, hown, hz⟩ (kC_messageAt_out l G B M x n mb z nf se lo go pa hn hx0 a ha) (zt_V zm_81 zm_83 zs_0 zm_1 zm_84) rfl rfl rfl (show _ ∧ _ ∧ _ ∧ _ = some 1 from by decide +kernel) ⟨Nat.le_of_ble_eq_true rfl, Nat.le_of_ble_eq_true rfl⟩ zE_blind (zE_at hE hS) hH hK hx0 rfl rfl hl.1 rfl (Nat.le_of_ble_eq_true rfl) dC_inside_2 ⟨Nat.zero_le _, Nat.zero_le _⟩ ?_
  refine lv_astore_nN (lv' := [(3, .null), (0, .ref x), (1, .int a), (2, .int k)]) hx hb dC_inside_5 rfl hl (by decide) rfl (fun ls hl => ?_)
  refine lv_aload_nN hx hb dC_inside_6 rfl (lv_at hl 0 rfl) ?_
  refine lv_ifnullN (tgt := 23) hx hb dC_inside_7 (by decide) ?_
  refine lv_iconst (v := (-1)) hx hb dC_inside_23 (by decide) ?_
  exact W.iret (v := (-1)) hx hb hr (fun t ht hW => ⟨rfl, ht⟩) (fun q h => by cases h) dC_inside_24

set_option maxHeartbeats 4000000 in
set_option maxRecDepth 100000 in
theorem kC_clock_in (l : Launch) (G : zG) (B : Nat) (M : zw_M) (x n mb z nf se lo go pa : Nat) (hn : n ≤ 8) (hx0 : M x = some (.inr (1, zoC n mb z nf se lo go pa))) (ck : Nat → Int64) (hck : M (z + 1) = some (.inl (G.2.1 1, n, .inr (.inl ck)))) (j : Nat) (hj : j < n) : Met l yC_clock (Cond.code yC_clock bC_clock 2 (some .long) :: zT) { frames := 1, cells := 0, slots := 0, locals := 21 } (zp G B M [.ref x, .int (nI j)]) (k2_QcV (.long (ck j))) 0 0 (fun _ => False) := by
  refine Met.ofW (cc := bC_clock) (maxL := 2) (ret := (some .long)) (by decide) rfl ?_
  intro p e s m args below meth c s₁ B0 hml hv
  obtain ⟨rfl, hE, hH⟩ := hv
  have hx := B0.exec
  have hb := B0.bytes
  have hr := B0.returns
  have hlocks := B0.notSynchronized
  have hz : ∀ w ∈ zT, w.before _ s = true := fun w h => atoms_spec (ws := Cond.code yC_clock bC_clock 2 (some .long) :: zT) B0.pre w (List.mem_cons_of_mem _ h)
  have hown : s.vm.findClass RC = some m.cls := findClass_of_methodNamed B0.named
  have hK := hE.1
  have hl := lv_entry ([.ref x, .int (nI j)]) (n := 2) (Nat.le_of_ble_eq_true rfl)
  rw [lg_entry_eq]
  generalize (lg_sl ([.ref x, .int (nI j)]) ++ List.replicate (2 - (lg_sl ([.ref x, .int (nI j)])).length) Slot.unset).toArray = ls at hl ⊢
  have hl : lv_has ls 2 [(0, .ref x), (1, .int (nI j))] := hl
  have hS : va_S (zw_A B) s.heap s.heap [] := va_S.rf
  refine lv_aload_n hx hb dC_clock_0 rfl (lv_at hl 0 rfl) ?_
  refine lv_iload_n hx hb dC_clock_1 rfl (lv_at hl 1 rfl) ?_
  refine zr_V (As := [.int (nI j)]) (rest := []) (q := (RC, TC, 14)) ⟨hx, hb, hml, hown, hz⟩ (kC_isReplica_in l G B M x n mb z nf se lo go pa hn hx0 j hj) (zt_V zm_93 zm_95 zs_2 zm_1 zm_96) rfl rfl rfl (show _ ∧ _ ∧ _ ∧ _ = some 1 from by decide +kernel) ⟨Nat.le_of_ble_eq_true rfl, Nat.le_of_ble_eq_true rfl⟩ zE_blind (zE_at hE hS) hH hK hx0 rfl rfl hl.1 rfl (Nat.le_of_ble_eq_true rfl) dC_clock_2 ⟨Nat.zero_le _, Nat.zero_le _⟩ ?_
  refine zc_ne0 (tgt := 18) hx hb dC_clock_5 (by decide) (by omega) (fun c => ?_) (fun c => ?_)
  · refine lv_aload_n hx hb dC_clock_18 rfl (lv_at hl 0 rfl) ?_
    refine va_get (D := G.1) (ci := 1) (v := .ref (z + 1)) (C := RC) (T := TC) (N := 14) hx hb hz iC hown hK (hH.one hx0) 0 rfl rfl 3 (by decide) (hz _ zm_34) (fun _ h9 => h9) rfl dC_clock_19 ?_
    refine lv_iload_n hx hb dC_clock_22 rfl (lv_at hl 1 rfl) ?_
    refine zw_lald hx hb hK hH 1 hck rfl (j) rfl (hj) (by omega) dC_clock_23 ?_
    exact W.lret (v := (ck j)) hx hb hr (fun t ht hW => ⟨rfl, ht⟩) (fun q h => by cases h) dC_clock_24
  · exact absurd c (by decide)

set_option maxHeartbeats 4000000 in
set_option maxRecDepth 100000 in
theorem kC_lacks_in (l : Launch) (G : zG) (B : Nat) (M : zw_M) (x n mb z nf se lo go pa : Nat) (hn : n ≤ 8) (hx0 : M x = some (.inr (1, zoC n mb z nf se lo go pa))) (ck : Nat → Int64) (hck : M (z + 1) = some (.inl (G.2.1 1, n, .inr (.inl ck)))) (lz : Nat → Nat) (hlz : M (z + 3 + n) = some (.inl (G.2.1 0, n, .inl (fun i => nI (lz i))))) (j : Nat) (hj : j < n) (hle : lz j ≤ zsum (fun a => zb (ck a) a) n) : Met l yC_lacks (Cond.code yC_lacks bC_lacks 2 (some .int) :: zT) { frames := 3, cells := 0, slots := 0, locals := 66 } (zp G B M [.ref x, .int (nI j)]) (k2_QcV (.int (nI (zsum (fun a => zb (ck a) a) n - lz j)))) 0 0 (fun _ => False) := by
  refine Met.ofW (cc := bC_lacks) (maxL := 2) (ret := (some .int)) (by decide) rfl ?_
  intro p e s m args below meth c s₁ B0 hml hv
  obtain ⟨rfl, hE, hH⟩ := hv
  have hx := B0.exec
  have hb := B0.bytes
  have hr := B0.returns
  have hlocks := B0.notSynchronized
  have hz : ∀ w ∈ zT, w.before _ s = true := fun w h => atoms_spec (ws := Cond.code yC_lacks bC_lacks 2 (some .int) :: zT) B0.pre w (List.mem_cons_of_mem _ h)
  have hown : s.vm.findClass RC = some m.cls := findClass_of_methodNamed B0.named
  have hK := hE.1
  have hl := lv_entry ([.ref x, .int (nI j)]) (n := 2) (Nat.le_of_ble_eq_true rfl)
  rw [lg_entry_eq]
  generalize (lg_sl ([.ref x, .int (nI j)]) ++ List.replicate (2 - (lg_sl ([.ref x, .int (nI j)])).length) Slot.unset).toArray = ls at hl ⊢
  have hl : lv_has ls 2 [(0, .ref x), (1, .int (nI j))] := hl
  have hS : va_S (zw_A B) s.heap s.heap [] := va_S.rf
  refine lv_aload_n hx hb dC_lacks_0 rfl (lv_at hl 0 rfl) ?_
  refine lv_iload_n hx hb dC_lacks_1 rfl (lv_at hl 1 rfl) ?_
  refine zr_V (As := [.int (nI j)]) (rest := []) (q := (RC, TC, 14)) ⟨hx, hb, hml, hown, hz⟩ (kC_isReplica_in l G B M x n mb z nf se lo go pa hn hx0 j hj) (zt_V zm_93 zm_95 zs_2 zm_1 zm_96) rfl rfl rfl (show _ ∧ _ ∧ _ ∧ _ = some 1 from by decide +kernel) ⟨Nat.le_of_ble_eq_true rfl, Nat.le_of_ble_eq_true rfl⟩ zE_blind (zE_at hE hS) hH hK hx0 rfl rfl hl.1 rfl (Nat.le_of_ble_eq_true rfl) dC_lacks_2 ⟨Nat.zero_le _, Nat.zero_le _⟩ ?_
  refine zc_ne0 (tgt := 18) hx hb dC_lacks_5 (by decide) (by omega) (fun c => ?_) (fun c => ?_)
  · refine lv_aload_n hx hb dC_lacks_18 rfl (lv_at hl 0 rfl) ?_
    refine zr_V (As := []) (rest := []) (q := (RC, TC, 14)) ⟨hx, hb, hml, hown, hz⟩ (kC_madeByAll l G B M x n mb z nf se lo go pa hn hx0 ck hck) (zt_V zm_129 zm_131 zs_5 zm_1 zm_132) rfl rfl rfl (show _ ∧ _ ∧ _ ∧ _ = some 0 from by decide +kernel) ⟨Nat.le_of_ble_eq_true rfl, Nat.le_of_ble_eq_true rfl⟩ zE_blind (zE_at hE hS) hH hK hx0 rfl rfl hl.1 rfl (Nat.le_of_ble_eq_true rfl) dC_lacks_19 ⟨Nat.zero_le _, Nat.zero_le _⟩ ?_
    refine lv_aload_n hx hb dC_lacks_22 rfl (lv_at hl 0 rfl) ?_
    refine va_get (D := G.1) (ci := 1) (v := .ref (z + 3 + n)) (C := RC) (T := TC) (N := 14) hx hb hz iC hown hK (hH.one hx0) 0 rfl rfl 5 (by decide) (hz _ zm_36) (fun _ h9 => h9) rfl dC_lacks_23 ?_
    refine lv_iload_n hx hb dC_lacks_26 rfl (lv_at hl 1 rfl) ?_
    refine zw_iald hx hb hK hH 0 hlz rfl (j) rfl (hj) (by omega) dC_lacks_27 ?_
    refine lv_isub hx hb dC_lacks_28 ?_
    refine zw_ti (pk_sub hle) ?_
    exact W.iret (v := (nI (zsum (fun a => zb (ck a) a) n - lz j))) hx hb hr (fun t ht hW => ⟨rfl, ht⟩) (fun q h => by cases h) dC_lacks_29
  · exact absurd c (by decide)

set_option maxHeartbeats 4000000 in
set_option maxRecDepth 100000 in
theorem kC_message_0 (l : Launch) (G : zG) (B : Nat) (M : zw_M) (x n mb z nf se lo go pa : Nat) (hn : n ≤ 8) (hx0 : M x = some (.inr (1, zoC n mb z nf se lo go pa))) (ff : Nat → Option Nat) (hfl : M (z + 5 + 2 * n) = some (.inl (G.2.1 3, 120, .inr (.inr (.inr (.inr ff)))))) (hnf : nf ≤ 120) (j : Nat) (hj : j < nf) (q : Nat) (num snd rcv byt : Int32) (told : Int64) (ch : Nat) (hq0 : M q = some (.inr (0, zoM num snd rcv byt told ch))) (hq : ff j = some q) : Met l yC_message (Cond.code yC_message bC_message 4 (some .int) :: zT) { frames := 1, cells := 0, slots := 0, locals := 21 } (zp G B M [.ref x, .int (nI j), .int (nI 0)]) (k2_QcV (.int num)) 0 0 (fun _ => False) := by
  refine Met.ofW (cc := bC_message) (maxL := 4) (ret := (some .int)) (by decide) rfl ?_
  intro p e s m args below meth c s₁ B0 hml hv
  obtain ⟨rfl, hE, hH⟩ := hv
  have hx := B0.exec
  have hb := B0.bytes
  have hr := B0.returns
  have hlocks := B0.notSynchronized
  have hz : ∀ w ∈ zT, w.before _ s = true := fun w h => atoms_spec (ws := Cond.code yC_message bC_message 4 (some .int) :: zT) B0.pre w (List.mem_cons_of_mem _ h)
  have hown : s.vm.findClass RC = some m.cls := findClass_of_methodNamed B0.named
  have hK := hE.1
  have hl := lv_entry ([.ref x, .int (nI j), .int (nI 0)]) (n := 4) (Nat.le_of_ble_eq_true rfl)
  rw [lg_entry_eq]
  generalize (lg_sl ([.ref x, .int (nI j), .int (nI 0)]) ++ List.replicate (4 - (lg_sl ([.ref x, .int (nI j), .int (nI 0)])).length) Slot.unset).toArray = ls at hl ⊢
  have hl : lv_has ls 4 [(0, .ref x), (1, .int (nI j)), (2, .int (nI 0))] := hl
  have hS : va_S (zw_A B) s.heap s.heap [] := va_S.rf
  refine lv_aload_n hx hb dC_message_0 rfl (lv_at hl 0 rfl) ?_
  refine lv_iload_n hx hb dC_message_1 rfl (lv_at hl 1 rfl) ?_
  refine zr_V (As := [.int (nI j)]) (rest := []) (q := (RC, TC, 14)) ⟨hx, hb, hml, hown, hz⟩ (kC_messageAt_in l G B M x n mb z nf se lo go pa hn hx0 ff hfl hnf j q hj hq) (zt_V zm_81 zm_83 zs_0 zm_1 zm_84) rfl rfl rfl (show _ ∧ _ ∧ _ ∧ _ = some 1 from by decide +kernel) ⟨Nat.le_of_ble_eq_true rfl, Nat.le_of_ble_eq_true rfl⟩ zE_blind (zE_at hE hS) hH hK hx0 rfl rfl hl.1 rfl (Nat.le_of_ble_eq_true rfl) dC_message_2 ⟨Nat.zero_le _, Nat.zero_le _⟩ ?_
  refine lv_astore_n (lv' := [(3, .ref q), (0, .ref x), (1, .int (nI j)), (2, .int (nI 0))]) hx hb dC_message_5 rfl hl (by decide) rfl (fun ls hl => ?_)
  refine lv_aload_n hx hb dC_message_6 rfl (lv_at hl 0 rfl) ?_
  refine lv_ifnull hx hb dC_message_7 ?_
  refine lv_iload_n hx hb dC_message_10 rfl (lv_at hl 3 rfl) ?_
  refine lv_if_lt (tgt := 19) hx hb dC_message_11 (by decide) (fun c => ?_) (fun c => ?_)
  · exact absurd c (by decide)
  · refine lv_iload_n hx hb dC_message_14 rfl (lv_at hl 3 rfl) ?_
    refine lv_iconst (v := nI 4) hx hb dC_message_15 (by decide) ?_
    refine zc_le (tgt := 29) hx hb dC_message_16 (by decide) (by decide) (by decide) (fun c2 => ?_) (fun c2 => ?_)
    · refine lv_iload_n hx hb dC_message_29 rfl (lv_at hl 3 rfl) ?_
      refine lv_tableIn (tgt := 60) hx hb dC_message_30 (by decide) (by decide) rfl (by decide) ?_
      refine lv_aload_n hx hb dC_message_60 rfl (lv_at hl 0 rfl) ?_
      refine va_get (D := G.1) (ci := 0) (v := .int num) (C := RM) (T := TM) (N := 6) hx hb hz iM hown hK (hH.one hq0) 0 rfl rfl 0 (by decide) (hz _ zm_284) (fun _ h9 => h9) rfl dC_message_61 ?_
      exact W.iret (v := num) hx hb hr (fun t ht hW => ⟨rfl, ht⟩) (fun q h => by cases h) dC_message_64
    · exact absurd c2 (by decide)

set_option maxHeartbeats 4000000 in
set_option maxRecDepth 100000 in
theorem kC_message_1 (l : Launch) (G : zG) (B : Nat) (M : zw_M) (x n mb z nf se lo go pa : Nat) (hn : n ≤ 8) (hx0 : M x = some (.inr (1, zoC n mb z nf se lo go pa))) (ff : Nat → Option Nat) (hfl : M (z + 5 + 2 * n) = some (.inl (G.2.1 3, 120, .inr (.inr (.inr (.inr ff)))))) (hnf : nf ≤ 120) (j : Nat) (hj : j < nf) (q : Nat) (num snd rcv byt : Int32) (told : Int64) (ch : Nat) (hq0 : M q = some (.inr (0, zoM num snd rcv byt told ch))) (hq : ff j = some q) : Met l yC_message (Cond.code yC_message bC_message 4 (some .int) :: zT) { frames := 1, cells := 0, slots := 0, locals := 21 } (zp G B M [.ref x, .int (nI j), .int (nI 1)]) (k2_QcV (.int snd)) 0 0 (fun _ => False) := by
  refine Met.ofW (cc := bC_message) (maxL := 4) (ret := (some .int)) (by decide) rfl ?_
  intro p e s m args below meth c s₁ B0 hml hv
  obtain ⟨rfl, hE, hH⟩ := hv
  have hx := B0.exec
  have hb := B0.bytes
  have hr := B0.returns
  have hlocks := B0.notSynchronized
  have hz : ∀ w ∈ zT, w.before _ s = true := fun w h => atoms_spec (ws := Cond.code yC_message bC_message 4 (some .int) :: zT) B0.pre w (List.mem_cons_of_mem _ h)
  have hown : s.vm.findClass RC = some m.cls := findClass_of_methodNamed B0.named
  have hK := hE.1
  have hl := lv_entry ([.ref x, .int (nI j), .int (nI 1)]) (n := 4) (Nat.le_of_ble_eq_true rfl)
  rw [lg_entry_eq]
  generalize (lg_sl ([.ref x, .int (nI j), .int (nI 1)]) ++ List.replicate (4 - (lg_sl ([.ref x, .int (nI j), .int (nI 1)])).length) Slot.unset).toArray = ls at hl ⊢
  have hl : lv_has ls 4 [(0, .ref x), (1, .int (nI j)), (2, .int (nI 1))] := hl
  have hS : va_S (zw_A B) s.heap s.heap [] := va_S.rf
  refine lv_aload_n hx hb dC_message_0 rfl (lv_at hl 0 rfl) ?_
  refine lv_iload_n hx hb dC_message_1 rfl (lv_at hl 1 rfl) ?_
  refine zr_V (As := [.int (nI j)]) (rest := []) (q := (RC, TC, 14)) ⟨hx, hb, hml, hown, hz⟩ (kC_messageAt_in l G B M x n mb z nf se lo go pa hn hx0 ff hfl hnf j q hj hq) (zt_V zm_81 zm_83 zs_0 zm_1 zm_84) rfl rfl rfl (show _ ∧ _ ∧ _ ∧ _ = some 1 from by decide +kernel) ⟨Nat.le_of_ble_eq_true rfl, Nat.le_of_ble_eq_true rfl⟩ zE_blind (zE_at hE hS) hH hK hx0 rfl rfl hl.1 rfl (Nat.le_of_ble_eq_true rfl) dC_message_2 ⟨Nat.zero_le _, Nat.zero_le _⟩ ?_
  refine lv_astore_n (lv' := [(3, .ref q), (0, .ref x), (1, .int (nI j)), (2, .int (nI 1))]) hx hb dC_message_5 rfl hl (by decide) rfl (fun ls hl => ?_)
  refine lv_aload_n hx hb dC_message_6 rfl (lv_at hl 0 rfl) ?_
  refine lv_ifnull hx hb dC_message_7 ?_
  refine lv_iload_n hx hb dC_message_10 rfl (lv_at hl 3 rfl) ?_
  refine lv_if_lt (tgt := 19) hx hb dC_message_11 (by decide) (fun c => ?_) (fun c => ?_)
  · exact absurd c (by decide)
  · refine lv_iload_n hx hb dC_message_14 rfl (lv_at hl 3 rfl) ?_
    refine lv_iconst (v := nI 4) hx hb dC_message_15 (by decide) ?_
    refine zc_le (tgt := 29) hx hb dC_message_16 (by decide) (by decide) (by decide) (fun c2 => ?_) (fun c2 => ?_)
    · refine lv_iload_n hx hb dC_message_29 rfl (lv_at hl 3 rfl) ?_
      refine lv_tableIn (tgt := 65) hx hb dC_message_30 (by decide) (by decide) rfl (by decide) ?_
      refine lv_aload_n hx hb dC_message_65 rfl (lv_at hl 0 rfl) ?_
      refine va_get (D := G.1) (ci := 0) (v := .int snd) (C := RM) (T := TM) (N := 6) hx hb hz iM hown hK (hH.one hq0) 0 rfl rfl 1 (by decide) (hz _ zm_286) (fun _ h9 => h9) rfl dC_message_66 ?_
      exact W.iret (v := snd) hx hb hr (fun t ht hW => ⟨rfl, ht⟩) (fun q h => by cases h) dC_message_69
    · exact absurd c2 (by decide)

set_option maxHeartbeats 4000000 in
set_option maxRecDepth 100000 in
theorem kC_message_2 (l : Launch) (G : zG) (B : Nat) (M : zw_M) (x n mb z nf se lo go pa : Nat) (hn : n ≤ 8) (hx0 : M x = some (.inr (1, zoC n mb z nf se lo go pa))) (ff : Nat → Option Nat) (hfl : M (z + 5 + 2 * n) = some (.inl (G.2.1 3, 120, .inr (.inr (.inr (.inr ff)))))) (hnf : nf ≤ 120) (j : Nat) (hj : j < nf) (q : Nat) (num snd rcv byt : Int32) (told : Int64) (ch : Nat) (hq0 : M q = some (.inr (0, zoM num snd rcv byt told ch))) (hq : ff j = some q) : Met l yC_message (Cond.code yC_message bC_message 4 (some .int) :: zT) { frames := 1, cells := 0, slots := 0, locals := 21 } (zp G B M [.ref x, .int (nI j), .int (nI 2)]) (k2_QcV (.int rcv)) 0 0 (fun _ => False) := by
  refine Met.ofW (cc := bC_message) (maxL := 4) (ret := (some .int)) (by decide) rfl ?_
  intro p e s m args below meth c s₁ B0 hml hv
  obtain ⟨rfl, hE, hH⟩ := hv
  have hx := B0.exec
  have hb := B0.bytes
  have hr := B0.returns
  have hlocks := B0.notSynchronized
  have hz : ∀ w ∈ zT, w.before _ s = true := fun w h => atoms_spec (ws := Cond.code yC_message bC_message 4 (some .int) :: zT) B0.pre w (List.mem_cons_of_mem _ h)
  have hown : s.vm.findClass RC = some m.cls := findClass_of_methodNamed B0.named
  have hK := hE.1
  have hl := lv_entry ([.ref x, .int (nI j), .int (nI 2)]) (n := 4) (Nat.le_of_ble_eq_true rfl)
  rw [lg_entry_eq]
  generalize (lg_sl ([.ref x, .int (nI j), .int (nI 2)]) ++ List.replicate (4 - (lg_sl ([.ref x, .int (nI j), .int (nI 2)])).length) Slot.unset).toArray = ls at hl ⊢
  have hl : lv_has ls 4 [(0, .ref x), (1, .int (nI j)), (2, .int (nI 2))] := hl
  have hS : va_S (zw_A B) s.heap s.heap [] := va_S.rf
  refine lv_aload_n hx hb dC_message_0 rfl (lv_at hl 0 rfl) ?_
  refine lv_iload_n hx hb dC_message_1 rfl (lv_at hl 1 rfl) ?_
  refine zr_V (As := [.int (nI j)]) (rest := []) (q := (RC, TC, 14)) ⟨hx, hb, hml, hown, hz⟩ (kC_messageAt_in l G B M x n mb z nf se lo go pa hn hx0 ff hfl hnf j q hj hq) (zt_V zm_81 zm_83 zs_0 zm_1 zm_84) rfl rfl rfl (show _ ∧ _ ∧ _ ∧ _ = some 1 from by decide +kernel) ⟨Nat.le_of_ble_eq_true rfl, Nat.le_of_ble_eq_true rfl⟩ zE_blind (zE_at hE hS) hH hK hx0 rfl rfl hl.1 rfl (Nat.le_of_ble_eq_true rfl) dC_message_2 ⟨Nat.zero_le _, Nat.zero_le _⟩ ?_
  refine lv_astore_n (lv' := [(3, .ref q), (0, .ref x), (1, .int (nI j)), (2, .int (nI 2))]) hx hb dC_message_5 rfl hl (by decide) rfl (fun ls hl => ?_)
  refine lv_aload_n hx hb dC_message_6 rfl (lv_at hl 0 rfl) ?_
  refine lv_ifnull hx hb dC_message_7 ?_
  refine lv_iload_n hx hb dC_message_10 rfl (lv_at hl 3 rfl) ?_
  refine lv_if_lt (tgt := 19) hx hb dC_message_11 (by decide) (fun c => ?_) (fun c => ?_)
  · exact absurd c (by decide)
  · refine lv_iload_n hx hb dC_message_14 rfl (lv_at hl 3 rfl) ?_
    refine lv_iconst (v := nI 4) hx hb dC_message_15 (by decide) ?_
    refine zc_le (tgt := 29) hx hb dC_message_16 (by decide) (by decide) (by decide) (fun c2 => ?_) (fun c2 => ?_)
    · refine lv_iload_n hx hb dC_message_29 rfl (lv_at hl 3 rfl) ?_
      refine lv_tableIn (tgt := 70) hx hb dC_message_30 (by decide) (by decide) rfl (by decide) ?_
      refine lv_aload_n hx hb dC_message_70 rfl (lv_at hl 0 rfl) ?_
      refine va_get (D := G.1) (ci := 0) (v := .int rcv) (C := RM) (T := TM) (N := 6) hx hb hz iM hown hK (hH.one hq0) 0 rfl rfl 2 (by decide) (hz _ zm_288) (fun _ h9 => h9) rfl dC_message_71 ?_
      exact W.iret (v := rcv) hx hb hr (fun t ht hW => ⟨rfl, ht⟩) (fun q h => by cases h) dC_message_74
    · exact absurd c2 (by decide)

set_option maxHeartbeats 4000000 in
set_option maxRecDepth 100000 in
theorem kC_message_3 (l : Launch) (G : zG) (B : Nat) (M : zw_M) (x n mb z nf se lo go pa : Nat) (hn : n ≤ 8) (hx0 : M x = some (.inr (1, zoC n mb z nf se lo go pa))) (ff : Nat → Option Nat) (hfl : M (z + 5 + 2 * n) = some (.inl (G.2.1 3, 120, .inr (.inr (.inr (.inr ff)))))) (hnf : nf ≤ 120) (j : Nat) (hj : j < nf) (q : Nat) (num snd rcv byt : Int32) (told : Int64) (ch : Nat) (hq0 : M q = some (.inr (0, zoM num snd rcv byt told ch))) (hq : ff j = some q) : Met l yC_message (Cond.code yC_message bC_message 4 (some .int) :: zT) { frames := 1, cells := 0, slots := 0, locals := 21 } (zp G B M [.ref x, .int (nI j), .int (nI 3)]) (k2_QcV (.int byt)) 0 0 (fun _ => False) := by
  refine Met.ofW (cc := bC_message) (maxL := 4) (ret := (some .int)) (by decide) rfl ?_
  intro p e s m args below meth c s₁ B0 hml hv
  obtain ⟨rfl, hE, hH⟩ := hv
  have hx := B0.exec
  have hb := B0.bytes
  have hr := B0.returns
  have hlocks := B0.notSynchronized
  have hz : ∀ w ∈ zT, w.before _ s = true := fun w h => atoms_spec (ws := Cond.code yC_message bC_message 4 (some .int) :: zT) B0.pre w (List.mem_cons_of_mem _ h)
  have hown : s.vm.findClass RC = some m.cls := findClass_of_methodNamed B0.named
  have hK := hE.1
  have hl := lv_entry ([.ref x, .int (nI j), .int (nI 3)]) (n := 4) (Nat.le_of_ble_eq_true rfl)
  rw [lg_entry_eq]
  generalize (lg_sl ([.ref x, .int (nI j), .int (nI 3)]) ++ List.replicate (4 - (lg_sl ([.ref x, .int (nI j), .int (nI 3)])).length) Slot.unset).toArray = ls at hl ⊢
  have hl : lv_has ls 4 [(0, .ref x), (1, .int (nI j)), (2, .int (nI 3))] := hl
  have hS : va_S (zw_A B) s.heap s.heap [] := va_S.rf
  refine lv_aload_n hx hb dC_message_0 rfl (lv_at hl 0 rfl) ?_
  refine lv_iload_n hx hb dC_message_1 rfl (lv_at hl 1 rfl) ?_
  refine zr_V (As := [.int (nI j)]) (rest := []) (q := (RC, TC, 14)) ⟨hx, hb, hml, hown, hz⟩ (kC_messageAt_in l G B M x n mb z nf se lo go pa hn hx0 ff hfl hnf j q hj hq) (zt_V zm_81 zm_83 zs_0 zm_1 zm_84) rfl rfl rfl (show _ ∧ _ ∧ _ ∧ _ = some 1 from by decide +kernel) ⟨Nat.le_of_ble_eq_true rfl, Nat.le_of_ble_eq_true rfl⟩ zE_blind (zE_at hE hS) hH hK hx0 rfl rfl hl.1 rfl (Nat.le_of_ble_eq_true rfl) dC_message_2 ⟨Nat.zero_le _, Nat.zero_le _⟩ ?_
  refine lv_astore_n (lv' := [(3, .ref q), (0, .ref x), (1, .int (nI j)), (2, .int (nI 3))]) hx hb dC_message_5 rfl hl (by decide) rfl (fun ls hl => ?_)
  refine lv_aload_n hx hb dC_message_6 rfl (lv_at hl 0 rfl) ?_
  refine lv_ifnull hx hb dC_message_7 ?_
  refine lv_iload_n hx hb dC_message_10 rfl (lv_at hl 3 rfl) ?_
  refine lv_if_lt (tgt := 19) hx hb dC_message_11 (by decide) (fun c => ?_) (fun c => ?_)
  · exact absurd c (by decide)
  · refine lv_iload_n hx hb dC_message_14 rfl (lv_at hl 3 rfl) ?_
    refine lv_iconst (v := nI 4) hx hb dC_message_15 (by decide) ?_
    refine zc_le (tgt := 29) hx hb dC_message_16 (by decide) (by decide) (by decide) (fun c2 => ?_) (fun c2 => ?_)
    · refine lv_iload_n hx hb dC_message_29 rfl (lv_at hl 3 rfl) ?_
      refine lv_tableIn (tgt := 75) hx hb dC_message_30 (by decide) (by decide) rfl (by decide) ?_
      refine lv_aload_n hx hb dC_message_75 rfl (lv_at hl 0 rfl) ?_
      refine va_get (D := G.1) (ci := 0) (v := .int byt) (C := RM) (T := TM) (N := 6) hx hb hz iM hown hK (hH.one hq0) 0 rfl rfl 3 (by decide) (hz _ zm_290) (fun _ h9 => h9) rfl dC_message_76 ?_
      exact W.iret (v := byt) hx hb hr (fun t ht hW => ⟨rfl, ht⟩) (fun q h => by cases h) dC_message_79
    · exact absurd c2 (by decide)

set_option maxHeartbeats 4000000 in
set_option maxRecDepth 100000 in
theorem kC_message_4c (l : Launch) (G : zG) (B : Nat) (M : zw_M) (x n mb z nf se lo go pa : Nat) (hn : n ≤ 8) (hx0 : M x = some (.inr (1, zoC n mb z nf se lo go pa))) (ff : Nat → Option Nat) (hfl : M (z + 5 + 2 * n) = some (.inl (G.2.1 3, 120, .inr (.inr (.inr (.inr ff)))))) (hnf : nf ≤ 120) (j : Nat) (hj : j < nf) (q : Nat) (num snd rcv byt : Int32) (told : Int64) (ch : Nat) (hq0 : M q = some (.inr (0, zoM num snd rcv byt told ch))) (hq : ff j = some q) (ht : told ≠ -1) : Met l yC_message (Cond.code yC_message bC_message 4 (some .int) :: zT) { frames := 1, cells := 0, slots := 0, locals := 21 } (zp G B M [.ref x, .int (nI j), .int (nI 4)]) (k2_QcV (.int (-1))) 0 0 (fun _ => False) := by
  refine Met.ofW (cc := bC_message) (maxL := 4) (ret := (some .int)) (by decide) rfl ?_
  intro p e s m args below meth c s₁ B0 hml hv
  obtain ⟨rfl, hE, hH⟩ := hv
  have hx := B0.exec
  have hb := B0.bytes
  have hr := B0.returns
  have hlocks := B0.notSynchronized
  have hz : ∀ w ∈ zT, w.before _ s = true := fun w h => atoms_spec (ws := Cond.code yC_message bC_message 4 (some .int) :: zT) B0.pre w (List.mem_cons_of_mem _ h)
  have hown : s.vm.findClass RC = some m.cls := findClass_of_methodNamed B0.named
  have hK := hE.1
  have hl := lv_entry ([.ref x, .int (nI j), .int (nI 4)]) (n := 4) (Nat.le_of_ble_eq_true rfl)
  rw [lg_entry_eq]
  generalize (lg_sl ([.ref x, .int (nI j), .int (nI 4)]) ++ List.replicate (4 - (lg_sl ([.ref x, .int (nI j), .int (nI 4)])).length) Slot.unset).toArray = ls at hl ⊢
  have hl : lv_has ls 4 [(0, .ref x), (1, .int (nI j)), (2, .int (nI 4))] := hl
  have hS : va_S (zw_A B) s.heap s.heap [] := va_S.rf
  refine lv_aload_n hx hb dC_message_0 rfl (lv_at hl 0 rfl) ?_
  refine lv_iload_n hx hb dC_message_1 rfl (lv_at hl 1 rfl) ?_
  refine zr_V (As := [.int (nI j)]) (rest := []) (q := (RC, TC, 14)) ⟨hx, hb, hml, hown, hz⟩ (kC_messageAt_in l G B M x n mb z nf se lo go pa hn hx0 ff hfl hnf j q hj hq) (zt_V zm_81 zm_83 zs_0 zm_1 zm_84) rfl rfl rfl (show _ ∧ _ ∧ _ ∧ _ = some 1 from by decide +kernel) ⟨Nat.le_of_ble_eq_true rfl, Nat.le_of_ble_eq_true rfl⟩ zE_blind (zE_at hE hS) hH hK hx0 rfl rfl hl.1 rfl (Nat.le_of_ble_eq_true rfl) dC_message_2 ⟨Nat.zero_le _, Nat.zero_le _⟩ ?_
  refine lv_astore_n (lv' := [(3, .ref q), (0, .ref x), (1, .int (nI j)), (2, .int (nI 4))]) hx hb dC_message_5 rfl hl (by decide) rfl (fun ls hl => ?_)
  refine lv_aload_n hx hb dC_message_6 rfl (lv_at hl 0 rfl) ?_
  refine lv_ifnull hx hb dC_message_7 ?_
  refine lv_iload_n hx hb dC_message_10 rfl (lv_at hl 3 rfl) ?_
  refine lv_if_lt (tgt := 19) hx hb dC_message_11 (by decide) (fun c => ?_) (fun c => ?_)
  · exact absurd c (by decide)
  · refine lv_iload_n hx hb dC_message_14 rfl (lv_at hl 3 rfl) ?_
    refine lv_iconst (v := nI 4) hx hb dC_message_15 (by decide) ?_
    refine zc_le (tgt := 29) hx hb dC_message_16 (by decide) (by decide) (by decide) (fun c2 => ?_) (fun c2 => ?_)
    · refine lv_iload_n hx hb dC_message_29 rfl (lv_at hl 3 rfl) ?_
      refine lv_tableOut (tgt := 80) hx hb dC_message_30 (by decide) (by decide) ?_
      refine lv_aload_n hx hb dC_message_80 rfl (lv_at hl 0 rfl) ?_
      refine zr_V (As := []) (rest := []) (q := (RM, TM, 6)) ⟨hx, hb, hml, hown, hz⟩ (kM_isClock_yes l G B M q num snd rcv byt told ch hq0 ht) (zt_V zm_320 zm_321 zm_322 zm_10 zm_323) rfl rfl rfl (show _ ∧ _ ∧ _ ∧ _ = some 0 from by decide +kernel) ⟨Nat.le_of_ble_eq_true rfl, Nat.le_of_ble_eq_true rfl⟩ zE_blind (zE_at hE hS) hH hK hq0 rfl rfl hl.1 rfl (Nat.le_of_ble_eq_true rfl) dC_message_81 ⟨Nat.zero_le _, Nat.zero_le _⟩ ?_
      refine zc_eq0 (tgt := 91) hx hb dC_message_84 (by decide) (by omega) (fun c3 => ?_) (fun c3 => ?_)
      · exact absurd c3 (by decide)
      · refine lv_iconst (v := (-1)) hx hb dC_message_87 (by decide) ?_
        refine lv_goto (tgt := 96) hx hb dC_message_88 (by decide) ?_
        exact W.iret (v := (-1)) hx hb hr (fun t ht hW => ⟨rfl, ht⟩) (fun q h => by cases h) dC_message_96
    · exact absurd c2 (by decide)

set_option maxHeartbeats 4000000 in
set_option maxRecDepth 100000 in
theorem kC_message_4p (l : Launch) (G : zG) (B : Nat) (M : zw_M) (x n mb z nf se lo go pa : Nat) (hn : n ≤ 8) (hx0 : M x = some (.inr (1, zoC n mb z nf se lo go pa))) (ff : Nat → Option Nat) (hfl : M (z + 5 + 2 * n) = some (.inl (G.2.1 3, 120, .inr (.inr (.inr (.inr ff)))))) (hnf : nf ≤ 120) (j : Nat) (hj : j < nf) (q : Nat) (num snd rcv byt : Int32) (told : Int64) (ch : Nat) (hq0 : M q = some (.inr (0, zoM num snd rcv byt told ch))) (hq : ff j = some q) (ht : told = -1) (len : Nat) (f : Nat → Int32) (hch : M ch = some (.inl (G.2.1 0, len, .inl f))) (hlen : len ≤ 480) : Met l yC_message (Cond.code yC_message bC_message 4 (some .int) :: zT) { frames := 1, cells := 0, slots := 0, locals := 21 } (zp G B M [.ref x, .int (nI j), .int (nI 4)]) (k2_QcV (.int (nI len))) 0 0 (fun _ => False) := by
  refine Met.ofW (cc := bC_message) (maxL := 4) (ret := (some .int)) (by decide) rfl ?_
  intro p e s m args below meth c s₁ B0 hml hv
  obtain ⟨rfl, hE, hH⟩ := hv
  have hx := B0.exec
  have hb := B0.bytes
  have hr := B0.returns
  have hlocks := B0.notSynchronized
  have hz : ∀ w ∈ zT, w.before _ s = true := fun w h => atoms_spec (ws := Cond.code yC_message bC_message 4 (some .int) :: zT) B0.pre w (List.mem_cons_of_mem _ h)
  have hown : s.vm.findClass RC = some m.cls := findClass_of_methodNamed B0.named
  have hK := hE.1
  have hl := lv_entry ([.ref x, .int (nI j), .int (nI 4)]) (n := 4) (Nat.le_of_ble_eq_true rfl)
  rw [lg_entry_eq]
  generalize (lg_sl ([.ref x, .int (nI j), .int (nI 4)]) ++ List.replicate (4 - (lg_sl ([.ref x, .int (nI j), .int (nI 4)])).length) Slot.unset).toArray = ls at hl ⊢
  have hl : lv_has ls 4 [(0, .ref x), (1, .int (nI j)), (2, .int (nI 4))] := hl
  have hS : va_S (zw_A B) s.heap s.heap [] := va_S.rf
  refine lv_aload_n hx hb dC_message_0 rfl (lv_at hl 0 rfl) ?_
  refine lv_iload_n hx hb dC_message_1 rfl (lv_at hl 1 rfl) ?_
  refine zr_V (As := [.int (nI j)]) (rest := []) (q := (RC, TC, 14)) ⟨hx, hb, hml, hown, hz⟩ (kC_messageAt_in l G B M x n mb z nf se lo go pa hn hx0 ff hfl hnf j q hj hq) (zt_V zm_81 zm_83 zs_0 zm_1 zm_84) rfl rfl rfl (show _ ∧ _ ∧ _ ∧ _ = some 1 from by decide +kernel) ⟨Nat.le_of_ble_eq_true rfl, Nat.le_of_ble_eq_true rfl⟩ zE_blind (zE_at hE hS) hH hK hx0 rfl rfl hl.1 rfl (Nat.le_of_ble_eq_true rfl) dC_message_2 ⟨Nat.zero_le _, Nat.zero_le _⟩ ?_
  refine lv_astore_n (lv' := [(3, .ref q), (0, .ref x), (1, .int (nI j)), (2, .int (nI 4))]) hx hb dC_message_5 rfl hl (by decide) rfl (fun ls hl => ?_)
  refine lv_aload_n hx hb dC_message_6 rfl (lv_at hl 0 rfl) ?_
  refine lv_ifnull hx hb dC_message_7 ?_
  refine lv_iload_n hx hb dC_message_10 rfl (lv_at hl 3 rfl) ?_
  refine lv_if_lt (tgt := 19) hx hb dC_message_11 (by decide) (fun c => ?_) (fun c => ?_)
  · exact absurd c (by decide)
  · refine lv_iload_n hx hb dC_message_14 rfl (lv_at hl 3 rfl) ?_
    refine lv_iconst (v := nI 4) hx hb dC_message_15 (by decide) ?_
    refine zc_le (tgt := 29) hx hb dC_message_16 (by decide) (by decide) (by decide) (fun c2 => ?_) (fun c2 => ?_)
    · refine lv_iload_n hx hb dC_message_29 rfl (lv_at hl 3 rfl) ?_
      refine lv_tableOut (tgt := 80) hx hb dC_message_30 (by decide) (by decide) ?_
      refine lv_aload_n hx hb dC_message_80 rfl (lv_at hl 0 rfl) ?_
      refine zr_V (As := []) (rest := []) (q := (RM, TM, 6)) ⟨hx, hb, hml, hown, hz⟩ (kM_isClock_no l G B M q num snd rcv byt told ch hq0 ht) (zt_V zm_320 zm_321 zm_322 zm_10 zm_323) rfl rfl rfl (show _ ∧ _ ∧ _ ∧ _ = some 0 from by decide +kernel) ⟨Nat.le_of_ble_eq_true rfl, Nat.le_of_ble_eq_true rfl⟩ zE_blind (zE_at hE hS) hH hK hq0 rfl rfl hl.1 rfl (Nat.le_of_ble_eq_true rfl) dC_message_81 ⟨Nat.zero_le _, Nat.zero_le _⟩ ?_
      refine zc_eq0 (tgt := 91) hx hb dC_message_84 (by decide) (by omega) (fun c3 => ?_) (fun c3 => ?_)
      · refine lv_aload_n hx hb dC_message_91 rfl (lv_at hl 0 rfl) ?_
        refine va_get (D := G.1) (ci := 0) (v := .ref ch) (C := RM) (T := TM) (N := 6) hx hb hz iM hown hK (hH.one hq0) 0 rfl rfl 5 (by decide) (hz _ zm_294) (fun _ h9 => h9) rfl dC_message_92 ?_
        refine zw_alen hx hb hK hH 0 hch rfl dC_message_95 ?_
        exact W.iret (v := (nI len)) hx hb hr (fun t ht hW => ⟨rfl, ht⟩) (fun q h => by cases h) dC_message_96
      · exact absurd rfl c3
    · exact absurd c2 (by decide)

set_option maxHeartbeats 4000000 in
set_option maxRecDepth 100000 in
theorem kC_look_0 (l : Launch) (G : zG) (B : Nat) (M : zw_M) (x n mb z nf se lo go pa : Nat) (hn : n ≤ 8) (hx0 : M x = some (.inr (1, zoC n mb z nf se lo go pa))) : Met l yC_look (Cond.code yC_look bC_look 2 (some .int) :: zT) { frames := 0, cells := 0, slots := 0, locals := 0 } (zp G B M [.ref x, .int (nI 0)]) (k2_QcV (.int (nI n))) 0 0 (fun _ => False) := by
  refine Met.ofW (cc := bC_look) (maxL := 2) (ret := (some .int)) (by decide) rfl ?_
  intro p e s m args below meth c s₁ B0 hml hv
  obtain ⟨rfl, hE, hH⟩ := hv
  have hx := B0.exec
  have hb := B0.bytes
  have hr := B0.returns
  have hlocks := B0.notSynchronized
  have hz : ∀ w ∈ zT, w.before _ s = true := fun w h => atoms_spec (ws := Cond.code yC_look bC_look 2 (some .int) :: zT) B0.pre w (List.mem_cons_of_mem _ h)
  have hown : s.vm.findClass RC = some m.cls := findClass_of_methodNamed B0.named
  have hK := hE.1
  have hl := lv_entry ([.ref x, .int (nI 0)]) (n := 2) (Nat.le_of_ble_eq_true rfl)
  rw [lg_entry_eq]
  generalize (lg_sl ([.ref x, .int (nI 0)]) ++ List.replicate (2 - (lg_sl ([.ref x, .int (nI 0)])).length) Slot.unset).toArray = ls at hl ⊢
  have hl : lv_has ls 2 [(0, .ref x), (1, .int (nI 0))] := hl
  have hS : va_S (zw_A B) s.heap s.heap [] := va_S.rf
  refine lv_iload_n hx hb dC_look_0 rfl (lv_at hl 1 rfl) ?_
  refine lv_tableIn (tgt := 52) hx hb dC_look_1 (by decide) (by decide) rfl (by decide) ?_
  refine lv_aload_n hx hb dC_look_52 rfl (lv_at hl 0 rfl) ?_
  refine va_get (D := G.1) (ci := 1) (v := .int (nI n)) (C := RC) (T := TC) (N := 14) hx hb hz iC hown hK (hH.one hx0) 0 rfl rfl 0 (by decide) (hz _ zm_31) (fun _ h9 => h9) rfl dC_look_53 ?_
  exact W.iret (v := (nI n)) hx hb hr (fun t ht hW => ⟨rfl, ht⟩) (fun q h => by cases h) dC_look_56

set_option maxHeartbeats 4000000 in
set_option maxRecDepth 100000 in
theorem kC_look_1 (l : Launch) (G : zG) (B : Nat) (M : zw_M) (x n mb z nf se lo go pa : Nat) (hn : n ≤ 8) (hx0 : M x = some (.inr (1, zoC n mb z nf se lo go pa))) : Met l yC_look (Cond.code yC_look bC_look 2 (some .int) :: zT) { frames := 0, cells := 0, slots := 0, locals := 0 } (zp G B M [.ref x, .int (nI 1)]) (k2_QcV (.int (nI mb))) 0 0 (fun _ => False) := by
  refine Met.ofW (cc := bC_look) (maxL := 2) (ret := (some .int)) (by decide) rfl ?_
  intro p e s m args below meth c s₁ B0 hml hv
  obtain ⟨rfl, hE, hH⟩ := hv
  have hx := B0.exec
  have hb := B0.bytes
  have hr := B0.returns
  have hlocks := B0.notSynchronized
  have hz : ∀ w ∈ zT, w.before _ s = true := fun w h => atoms_spec (ws := Cond.code yC_look bC_look 2 (some .int) :: zT) B0.pre w (List.mem_cons_of_mem _ h)
  have hown : s.vm.findClass RC = some m.cls := findClass_of_methodNamed B0.named
  have hK := hE.1
  have hl := lv_entry ([.ref x, .int (nI 1)]) (n := 2) (Nat.le_of_ble_eq_true rfl)
  rw [lg_entry_eq]
  generalize (lg_sl ([.ref x, .int (nI 1)]) ++ List.replicate (2 - (lg_sl ([.ref x, .int (nI 1)])).length) Slot.unset).toArray = ls at hl ⊢
  have hl : lv_has ls 2 [(0, .ref x), (1, .int (nI 1))] := hl
  have hS : va_S (zw_A B) s.heap s.heap [] := va_S.rf
  refine lv_iload_n hx hb dC_look_0 rfl (lv_at hl 1 rfl) ?_
  refine lv_tableIn (tgt := 57) hx hb dC_look_1 (by decide) (by decide) rfl (by decide) ?_
  refine lv_aload_n hx hb dC_look_57 rfl (lv_at hl 0 rfl) ?_
  refine va_get (D := G.1) (ci := 1) (v := .int (nI mb)) (C := RC) (T := TC) (N := 14) hx hb hz iC hown hK (hH.one hx0) 0 rfl rfl 1 (by decide) (hz _ zm_32) (fun _ h9 => h9) rfl dC_look_58 ?_
  exact W.iret (v := (nI mb)) hx hb hr (fun t ht hW => ⟨rfl, ht⟩) (fun q h => by cases h) dC_look_61

set_option maxHeartbeats 4000000 in
set_option maxRecDepth 100000 in
theorem kC_look_2 (l : Launch) (G : zG) (B : Nat) (M : zw_M) (x n mb z nf se lo go pa : Nat) (hn : n ≤ 8) (hx0 : M x = some (.inr (1, zoC n mb z nf se lo go pa))) : Met l yC_look (Cond.code yC_look bC_look 2 (some .int) :: zT) { frames := 0, cells := 0, slots := 0, locals := 0 } (zp G B M [.ref x, .int (nI 2)]) (k2_QcV (.int (nI nf))) 0 0 (fun _ => False) := by
  refine Met.ofW (cc := bC_look) (maxL := 2) (ret := (some .int)) (by decide) rfl ?_
  intro p e s m args below meth c s₁ B0 hml hv
  obtain ⟨rfl, hE, hH⟩ := hv
  have hx := B0.exec
  have hb := B0.bytes
  have hr := B0.returns
  have hlocks := B0.notSynchronized
  have hz : ∀ w ∈ zT, w.before _ s = true := fun w h => atoms_spec (ws := Cond.code yC_look bC_look 2 (some .int) :: zT) B0.pre w (List.mem_cons_of_mem _ h)
  have hown : s.vm.findClass RC = some m.cls := findClass_of_methodNamed B0.named
  have hK := hE.1
  have hl := lv_entry ([.ref x, .int (nI 2)]) (n := 2) (Nat.le_of_ble_eq_true rfl)
  rw [lg_entry_eq]
  generalize (lg_sl ([.ref x, .int (nI 2)]) ++ List.replicate (2 - (lg_sl ([.ref x, .int (nI 2)])).length) Slot.unset).toArray = ls at hl ⊢
  have hl : lv_has ls 2 [(0, .ref x), (1, .int (nI 2))] := hl
  have hS : va_S (zw_A B) s.heap s.heap [] := va_S.rf
  refine lv_iload_n hx hb dC_look_0 rfl (lv_at hl 1 rfl) ?_
  refine lv_tableIn (tgt := 62) hx hb dC_look_1 (by decide) (by decide) rfl (by decide) ?_
  refine lv_aload_n hx hb dC_look_62 rfl (lv_at hl 0 rfl) ?_
  refine va_get (D := G.1) (ci := 1) (v := .int (nI nf)) (C := RC) (T := TC) (N := 14) hx hb hz iC hown hK (hH.one hx0) 0 rfl rfl 8 (by decide) (hz _ zm_39) (fun _ h9 => h9) rfl dC_look_63 ?_
  exact W.iret (v := (nI nf)) hx hb hr (fun t ht hW => ⟨rfl, ht⟩) (fun q h => by cases h) dC_look_66

set_option maxHeartbeats 4000000 in
set_option maxRecDepth 100000 in
theorem kC_look_3 (l : Launch) (G : zG) (B : Nat) (M : zw_M) (x n mb z nf se lo go pa : Nat) (hn : n ≤ 8) (hx0 : M x = some (.inr (1, zoC n mb z nf se lo go pa))) : Met l yC_look (Cond.code yC_look bC_look 2 (some .int) :: zT) { frames := 0, cells := 0, slots := 0, locals := 0 } (zp G B M [.ref x, .int (nI 3)]) (k2_QcV (.int (nI se))) 0 0 (fun _ => False) := by
  refine Met.ofW (cc := bC_look) (maxL := 2) (ret := (some .int)) (by decide) rfl ?_
  intro p e s m args below meth c s₁ B0 hml hv
  obtain ⟨rfl, hE, hH⟩ := hv
  have hx := B0.exec
  have hb := B0.bytes
  have hr := B0.returns
  have hlocks := B0.notSynchronized
  have hz : ∀ w ∈ zT, w.before _ s = true := fun w h => atoms_spec (ws := Cond.code yC_look bC_look 2 (some .int) :: zT) B0.pre w (List.mem_cons_of_mem _ h)
  have hown : s.vm.findClass RC = some m.cls := findClass_of_methodNamed B0.named
  have hK := hE.1
  have hl := lv_entry ([.ref x, .int (nI 3)]) (n := 2) (Nat.le_of_ble_eq_true rfl)
  rw [lg_entry_eq]
  generalize (lg_sl ([.ref x, .int (nI 3)]) ++ List.replicate (2 - (lg_sl ([.ref x, .int (nI 3)])).length) Slot.unset).toArray = ls at hl ⊢
  have hl : lv_has ls 2 [(0, .ref x), (1, .int (nI 3))] := hl
  have hS : va_S (zw_A B) s.heap s.heap [] := va_S.rf
  refine lv_iload_n hx hb dC_look_0 rfl (lv_at hl 1 rfl) ?_
  refine lv_tableIn (tgt := 67) hx hb dC_look_1 (by decide) (by decide) rfl (by decide) ?_
  refine lv_aload_n hx hb dC_look_67 rfl (lv_at hl 0 rfl) ?_
  refine va_get (D := G.1) (ci := 1) (v := .int (nI se)) (C := RC) (T := TC) (N := 14) hx hb hz iC hown hK (hH.one hx0) 0 rfl rfl 10 (by decide) (hz _ zm_41) (fun _ h9 => h9) rfl dC_look_68 ?_
  exact W.iret (v := (nI se)) hx hb hr (fun t ht hW => ⟨rfl, ht⟩) (fun q h => by cases h) dC_look_71

set_option maxHeartbeats 4000000 in
set_option maxRecDepth 100000 in
theorem kC_look_4 (l : Launch) (G : zG) (B : Nat) (M : zw_M) (x n mb z nf se lo go pa : Nat) (hn : n ≤ 8) (hx0 : M x = some (.inr (1, zoC n mb z nf se lo go pa))) : Met l yC_look (Cond.code yC_look bC_look 2 (some .int) :: zT) { frames := 0, cells := 0, slots := 0, locals := 0 } (zp G B M [.ref x, .int (nI 4)]) (k2_QcV (.int (nI lo))) 0 0 (fun _ => False) := by
  refine Met.ofW (cc := bC_look) (maxL := 2) (ret := (some .int)) (by decide) rfl ?_
  intro p e s m args below meth c s₁ B0 hml hv
  obtain ⟨rfl, hE, hH⟩ := hv
  have hx := B0.exec
  have hb := B0.bytes
  have hr := B0.returns
  have hlocks := B0.notSynchronized
  have hz : ∀ w ∈ zT, w.before _ s = true := fun w h => atoms_spec (ws := Cond.code yC_look bC_look 2 (some .int) :: zT) B0.pre w (List.mem_cons_of_mem _ h)
  have hown : s.vm.findClass RC = some m.cls := findClass_of_methodNamed B0.named
  have hK := hE.1
  have hl := lv_entry ([.ref x, .int (nI 4)]) (n := 2) (Nat.le_of_ble_eq_true rfl)
  rw [lg_entry_eq]
  generalize (lg_sl ([.ref x, .int (nI 4)]) ++ List.replicate (2 - (lg_sl ([.ref x, .int (nI 4)])).length) Slot.unset).toArray = ls at hl ⊢
  have hl : lv_has ls 2 [(0, .ref x), (1, .int (nI 4))] := hl
  have hS : va_S (zw_A B) s.heap s.heap [] := va_S.rf
  refine lv_iload_n hx hb dC_look_0 rfl (lv_at hl 1 rfl) ?_
  refine lv_tableIn (tgt := 72) hx hb dC_look_1 (by decide) (by decide) rfl (by decide) ?_
  refine lv_aload_n hx hb dC_look_72 rfl (lv_at hl 0 rfl) ?_
  refine va_get (D := G.1) (ci := 1) (v := .int (nI lo)) (C := RC) (T := TC) (N := 14) hx hb hz iC hown hK (hH.one hx0) 0 rfl rfl 11 (by decide) (hz _ zm_42) (fun _ h9 => h9) rfl dC_look_73 ?_
  exact W.iret (v := (nI lo)) hx hb hr (fun t ht hW => ⟨rfl, ht⟩) (fun q h => by cases h) dC_look_76

set_option maxHeartbeats 4000000 in
set_option maxRecDepth 100000 in
theorem kC_look_5 (l : Launch) (G : zG) (B : Nat) (M : zw_M) (x n mb z nf se lo go pa : Nat) (hn : n ≤ 8) (hx0 : M x = some (.inr (1, zoC n mb z nf se lo go pa))) : Met l yC_look (Cond.code yC_look bC_look 2 (some .int) :: zT) { frames := 0, cells := 0, slots := 0, locals := 0 } (zp G B M [.ref x, .int (nI 5)]) (k2_QcV (.int (nI go))) 0 0 (fun _ => False) := by
  refine Met.ofW (cc := bC_look) (maxL := 2) (ret := (some .int)) (by decide) rfl ?_
  intro p e s m args below meth c s₁ B0 hml hv
  obtain ⟨rfl, hE, hH⟩ := hv
  have hx := B0.exec
  have hb := B0.bytes
  have hr := B0.returns
  have hlocks := B0.notSynchronized
  have hz : ∀ w ∈ zT, w.before _ s = true := fun w h => atoms_spec (ws := Cond.code yC_look bC_look 2 (some .int) :: zT) B0.pre w (List.mem_cons_of_mem _ h)
  have hown : s.vm.findClass RC = some m.cls := findClass_of_methodNamed B0.named
  have hK := hE.1
  have hl := lv_entry ([.ref x, .int (nI 5)]) (n := 2) (Nat.le_of_ble_eq_true rfl)
  rw [lg_entry_eq]
  generalize (lg_sl ([.ref x, .int (nI 5)]) ++ List.replicate (2 - (lg_sl ([.ref x, .int (nI 5)])).length) Slot.unset).toArray = ls at hl ⊢
  have hl : lv_has ls 2 [(0, .ref x), (1, .int (nI 5))] := hl
  have hS : va_S (zw_A B) s.heap s.heap [] := va_S.rf
  refine lv_iload_n hx hb dC_look_0 rfl (lv_at hl 1 rfl) ?_
  refine lv_tableIn (tgt := 77) hx hb dC_look_1 (by decide) (by decide) rfl (by decide) ?_
  refine lv_aload_n hx hb dC_look_77 rfl (lv_at hl 0 rfl) ?_
  refine va_get (D := G.1) (ci := 1) (v := .int (nI go)) (C := RC) (T := TC) (N := 14) hx hb hz iC hown hK (hH.one hx0) 0 rfl rfl 12 (by decide) (hz _ zm_43) (fun _ h9 => h9) rfl dC_look_78 ?_
  exact W.iret (v := (nI go)) hx hb hr (fun t ht hW => ⟨rfl, ht⟩) (fun q h => by cases h) dC_look_81

set_option maxHeartbeats 4000000 in
set_option maxRecDepth 100000 in
theorem kC_look_6 (l : Launch) (G : zG) (B : Nat) (M : zw_M) (x n mb z nf se lo go pa : Nat) (hn : n ≤ 8) (hx0 : M x = some (.inr (1, zoC n mb z nf se lo go pa))) : Met l yC_look (Cond.code yC_look bC_look 2 (some .int) :: zT) { frames := 0, cells := 0, slots := 0, locals := 0 } (zp G B M [.ref x, .int (nI 6)]) (k2_QcV (.int (nI pa))) 0 0 (fun _ => False) := by
  refine Met.ofW (cc := bC_look) (maxL := 2) (ret := (some .int)) (by decide) rfl ?_
  intro p e s m args below meth c s₁ B0 hml hv
  obtain ⟨rfl, hE, hH⟩ := hv
  have hx := B0.exec
  have hb := B0.bytes
  have hr := B0.returns
  have hlocks := B0.notSynchronized
  have hz : ∀ w ∈ zT, w.before _ s = true := fun w h => atoms_spec (ws := Cond.code yC_look bC_look 2 (some .int) :: zT) B0.pre w (List.mem_cons_of_mem _ h)
  have hown : s.vm.findClass RC = some m.cls := findClass_of_methodNamed B0.named
  have hK := hE.1
  have hl := lv_entry ([.ref x, .int (nI 6)]) (n := 2) (Nat.le_of_ble_eq_true rfl)
  rw [lg_entry_eq]
  generalize (lg_sl ([.ref x, .int (nI 6)]) ++ List.replicate (2 - (lg_sl ([.ref x, .int (nI 6)])).length) Slot.unset).toArray = ls at hl ⊢
  have hl : lv_has ls 2 [(0, .ref x), (1, .int (nI 6))] := hl
  have hS : va_S (zw_A B) s.heap s.heap [] := va_S.rf
  refine lv_iload_n hx hb dC_look_0 rfl (lv_at hl 1 rfl) ?_
  refine lv_tableIn (tgt := 82) hx hb dC_look_1 (by decide) (by decide) rfl (by decide) ?_
  refine lv_aload_n hx hb dC_look_82 rfl (lv_at hl 0 rfl) ?_
  refine va_get (D := G.1) (ci := 1) (v := .int (nI pa)) (C := RC) (T := TC) (N := 14) hx hb hz iC hown hK (hH.one hx0) 0 rfl rfl 13 (by decide) (hz _ zm_44) (fun _ h9 => h9) rfl dC_look_83 ?_
  exact W.iret (v := (nI pa)) hx hb hr (fun t ht hW => ⟨rfl, ht⟩) (fun q h => by cases h) dC_look_86

set_option maxHeartbeats 4000000 in
set_option maxRecDepth 100000 in
theorem kC_look_7 (l : Launch) (G : zG) (B : Nat) (M : zw_M) (x n mb z nf se lo go pa : Nat) (hn : n ≤ 8) (hx0 : M x = some (.inr (1, zoC n mb z nf se lo go pa))) (ck : Nat → Int64) (hck : M (z + 1) = some (.inl (G.2.1 1, n, .inr (.inl ck)))) (lz : Nat → Nat) (hlz : M (z + 3 + n) = some (.inl (G.2.1 0, n, .inl (fun i => nI (lz i))))) (T : Nat) (hT : T = zsum (fun a => zb (ck a) a) n) (hT2 : T < 2 ^ 31) (hlb : ∀ i, i < n → lz i < 2 ^ 31) : Met l yC_look (Cond.code yC_look bC_look 2 (some .int) :: zT) { frames := 4, cells := 0, slots := 0, locals := 90 } (zp G B M [.ref x, .int (nI 7)]) (k2_QcV (.int (nI (zsum (fun r => if lz r = T then 1 else 0) n)))) 0 0 (fun _ => False) := by
  refine Met.ofW (cc := bC_look) (maxL := 2) (ret := (some .int)) (by decide) rfl ?_
  intro p e s m args below meth c s₁ B0 hml hv
  obtain ⟨rfl, hE, hH⟩ := hv
  have hx := B0.exec
  have hb := B0.bytes
  have hr := B0.returns
  have hlocks := B0.notSynchronized
  have hz : ∀ w ∈ zT, w.before _ s = true := fun w h => atoms_spec (ws := Cond.code yC_look bC_look 2 (some .int) :: zT) B0.pre w (List.mem_cons_of_mem _ h)
  have hown : s.vm.findClass RC = some m.cls := findClass_of_methodNamed B0.named
  have hK := hE.1
  have hl := lv_entry ([.ref x, .int (nI 7)]) (n := 2) (Nat.le_of_ble_eq_true rfl)
  rw [lg_entry_eq]
  generalize (lg_sl ([.ref x, .int (nI 7)]) ++ List.replicate (2 - (lg_sl ([.ref x, .int (nI 7)])).length) Slot.unset).toArray = ls at hl ⊢
  have hl : lv_has ls 2 [(0, .ref x), (1, .int (nI 7))] := hl
  have hS : va_S (zw_A B) s.heap s.heap [] := va_S.rf
  refine lv_iload_n hx hb dC_look_0 rfl (lv_at hl 1 rfl) ?_
  refine lv_tableIn (tgt := 87) hx hb dC_look_1 (by decide) (by decide) rfl (by decide) ?_
  refine lv_aload_n hx hb dC_look_87 rfl (lv_at hl 0 rfl) ?_
  refine zr_V (As := []) (rest := []) (q := (RC, TC, 14)) ⟨hx, hb, hml, hown, hz⟩ (kC_replicasWithAll l G B M x n mb z nf se lo go pa hn hx0 ck hck lz hlz T hT hT2 hlb) (zt_V zm_125 zm_127 zs_4 zm_1 zm_128) rfl rfl rfl (show _ ∧ _ ∧ _ ∧ _ = some 0 from by decide +kernel) ⟨Nat.le_of_ble_eq_true rfl, Nat.le_of_ble_eq_true rfl⟩ zE_blind (zE_at hE hS) hH hK hx0 rfl rfl hl.1 rfl (Nat.le_of_ble_eq_true rfl) dC_look_88 ⟨Nat.zero_le _, Nat.zero_le _⟩ ?_
  exact W.iret (v := (nI (zsum (fun r => if lz r = T then 1 else 0) n))) hx hb hr (fun t ht hW => ⟨rfl, ht⟩) (fun q h => by cases h) dC_look_91

set_option maxHeartbeats 4000000 in
set_option maxRecDepth 100000 in
theorem kC_look_8 (l : Launch) (G : zG) (B : Nat) (M : zw_M) (x n mb z nf se lo go pa : Nat) (hn : n ≤ 8) (hx0 : M x = some (.inr (1, zoC n mb z nf se lo go pa))) (ff : Nat → Option Nat) (hfl : M (z + 5 + 2 * n) = some (.inl (G.2.1 3, 120, .inr (.inr (.inr (.inr ff)))))) (hnf : nf ≤ 120) (by1 : Nat → Nat) (hm : ∀ i, i < nf → ∃ (q : Nat) (num snd rcv : Int32) (told : Int64) (ch : Nat), ff i = some q ∧ M q = some (.inr (0, zoM num snd rcv (nI (by1 i)) told ch))) : Met l yC_look (Cond.code yC_look bC_look 2 (some .int) :: zT) { frames := 2, cells := 0, slots := 0, locals := 44 } (zp G B M [.ref x, .int (nI 8)]) (k2_QcV (.int (nI (zsum by1 nf)))) 0 0 (fun _ => False) := by
  refine Met.ofW (cc := bC_look) (maxL := 2) (ret := (some .int)) (by decide) rfl ?_
  intro p e s m args below meth c s₁ B0 hml hv
  obtain ⟨rfl, hE, hH⟩ := hv
  have hx := B0.exec
  have hb := B0.bytes
  have hr := B0.returns
  have hlocks := B0.notSynchronized
  have hz : ∀ w ∈ zT, w.before _ s = true := fun w h => atoms_spec (ws := Cond.code yC_look bC_look 2 (some .int) :: zT) B0.pre w (List.mem_cons_of_mem _ h)
  have hown : s.vm.findClass RC = some m.cls := findClass_of_methodNamed B0.named
  have hK := hE.1
  have hl := lv_entry ([.ref x, .int (nI 8)]) (n := 2) (Nat.le_of_ble_eq_true rfl)
  rw [lg_entry_eq]
  generalize (lg_sl ([.ref x, .int (nI 8)]) ++ List.replicate (2 - (lg_sl ([.ref x, .int (nI 8)])).length) Slot.unset).toArray = ls at hl ⊢
  have hl : lv_has ls 2 [(0, .ref x), (1, .int (nI 8))] := hl
  have hS : va_S (zw_A B) s.heap s.heap [] := va_S.rf
  refine lv_iload_n hx hb dC_look_0 rfl (lv_at hl 1 rfl) ?_
  refine lv_tableIn (tgt := 92) hx hb dC_look_1 (by decide) (by decide) rfl (by decide) ?_
  refine lv_aload_n hx hb dC_look_92 rfl (lv_at hl 0 rfl) ?_
  refine zr_V (As := []) (rest := []) (q := (RC, TC, 14)) ⟨hx, hb, hml, hown, hz⟩ (kC_bytesInFlight l G B M x n mb z nf se lo go pa hn hx0 ff hfl hnf by1 hm) (zt_V zm_133 zm_135 zs_6 zm_1 zm_136) rfl rfl rfl (show _ ∧ _ ∧ _ ∧ _ = some 0 from by decide +kernel) ⟨Nat.le_of_ble_eq_true rfl, Nat.le_of_ble_eq_true rfl⟩ zE_blind (zE_at hE hS) hH hK hx0 rfl rfl hl.1 rfl (Nat.le_of_ble_eq_true rfl) dC_look_93 ⟨Nat.zero_le _, Nat.zero_le _⟩ ?_
  exact W.iret (v := (nI (zsum by1 nf))) hx hb hr (fun t ht hW => ⟨rfl, ht⟩) (fun q h => by cases h) dC_look_96

set_option maxHeartbeats 4000000 in
set_option maxRecDepth 100000 in
theorem kC_look_out (l : Launch) (G : zG) (B : Nat) (M : zw_M) (x n mb z nf se lo go pa : Nat) (hn : n ≤ 8) (hx0 : M x = some (.inr (1, zoC n mb z nf se lo go pa))) (a : Int32) (ha : a < 0 ∨ nI 9 ≤ a) : Met l yC_look (Cond.code yC_look bC_look 2 (some .int) :: zT) { frames := 0, cells := 0, slots := 0, locals := 0 } (zp G B M [.ref x, .int a]) (k2_QcV (.int (-1))) 0 0 (fun _ => False) := by
  refine Met.ofW (cc := bC_look) (maxL := 2) (ret := (some .int)) (by decide) rfl ?_
  intro p e s m args below meth c s₁ B0 hml hv
  obtain ⟨rfl, hE, hH⟩ := hv
  have hx := B0.exec
  have hb := B0.bytes
  have hr := B0.returns
  have hlocks := B0.notSynchronized
  have hz : ∀ w ∈ zT, w.before _ s = true := fun w h => atoms_spec (ws := Cond.code yC_look bC_look 2 (some .int) :: zT) B0.pre w (List.mem_cons_of_mem _ h)
  have hown : s.vm.findClass RC = some m.cls := findClass_of_methodNamed B0.named
  have hK := hE.1
  have hl := lv_entry ([.ref x, .int a]) (n := 2) (Nat.le_of_ble_eq_true rfl)
  rw [lg_entry_eq]
  generalize (lg_sl ([.ref x, .int a]) ++ List.replicate (2 - (lg_sl ([.ref x, .int a])).length) Slot.unset).toArray = ls at hl ⊢
  have hl : lv_has ls 2 [(0, .ref x), (1, .int a)] := hl
  have hS : va_S (zw_A B) s.heap s.heap [] := va_S.rf
  refine lv_iload_n hx hb dC_look_0 rfl (lv_at hl 1 rfl) ?_
  refine lv_tableOut (tgt := 97) hx hb dC_look_1 (zlook_out ha) (by decide) ?_
  refine lv_iconst (v := (-1)) hx hb dC_look_97 (by decide) ?_
  exact W.iret (v := (-1)) hx hb hr (fun t ht hW => ⟨rfl, ht⟩) (fun q h => by cases h) dC_look_98

