/-! THE CLASS: its object, its readers -/
/-- the object's fields: n replicas, messages of mb bytes at most; its arrays lie from z on -/
def zoC (n mb z nf se lo go pa : Nat) : List Value := [.int (nI n), .int (nI mb), .ref z, .ref (z + 1), .ref (z + 2), .ref (z + 3 + n), .ref (z + 4 + n), .ref (z + 5 + 2 * n), .int (nI nf), .ref (z + 6 + 2 * n), .int (nI se), .int (nI lo), .int (nI go), .int (nI pa)]
/-- a message's fields -/
def zoM (num snd rcv byt : Int32) (told : Int64) (ch : Nat) : List Value := [.int num, .int snd, .int rcv, .int byt, .long told, .ref ch]
set_option maxHeartbeats 4000000 in
set_option maxRecDepth 100000 in
/-- isReplica(j), j < n -/
theorem kC_isReplica_in (l : Launch) (G : zG) (B : Nat) (M : zw_M) (x n mb z nf se lo go pa : Nat) (hn : n ≤ 8) (hx0 : M x = some (.inr (1, zoC n mb z nf se lo go pa))) (j : Nat) (hj : j < n) : Met l yC_isReplica (Cond.code yC_isReplica bC_isReplica 2 (some .boolean) :: zT) { frames := 0, cells := 0, slots := 0, locals := 0 } (zp G B M [.ref x, .int (nI j)]) (k2_QcV (.int (nI 1))) 0 0 (fun _ => False) := by
  refine Met.ofW (cc := bC_isReplica) (maxL := 2) (ret := (some .boolean)) (by decide) rfl ?_
  intro p e s m args below meth c s₁ B0 hml hv
  obtain ⟨rfl, hE, hH⟩ := hv
  have hx := B0.exec
  have hb := B0.bytes
  have hr := B0.returns
  have hlocks := B0.notSynchronized
  have hz : ∀ w ∈ zT, w.before _ s = true := fun w h => atoms_spec (ws := Cond.code yC_isReplica bC_isReplica 2 (some .boolean) :: zT) B0.pre w (List.mem_cons_of_mem _ h)
  have hown : s.vm.findClass RC = some m.cls := findClass_of_methodNamed B0.named
  have hK := hE.1
  have hl := lv_entry ([.ref x, .int (nI j)]) (n := 2) (Nat.le_of_ble_eq_true rfl)
  rw [lg_entry_eq]
  generalize (lg_sl ([.ref x, .int (nI j)]) ++ List.replicate (2 - (lg_sl ([.ref x, .int (nI j)])).length) Slot.unset).toArray = ls at hl ⊢
  have hl : lv_has ls 2 [(0, .ref x), (1, .int (nI j))] := hl
  have hS : va_S (zw_A B) s.heap s.heap [] := va_S.rf
  refine lv_iload_n hx hb dC_isReplica_0 rfl (lv_at hl 1 rfl) ?_
  refine lv_if_lt (tgt := 16) hx hb dC_isReplica_1 (by decide) (fun c => ?_) (fun c => ?_)
  · exact absurd c (nI_pos (by omega))
  · refine lv_iload_n hx hb dC_isReplica_4 rfl (lv_at hl 1 rfl) ?_
    refine lv_aload_n hx hb dC_isReplica_5 rfl (lv_at hl 0 rfl) ?_
    refine va_get (D := G.1) (ci := 1) (v := .int (nI n)) (C := RC) (T := TC) (N := 14) hx hb hz iC hown hK (hH.one hx0) 0 rfl rfl 0 (by decide) (hz _ zm_31) (fun _ h9 => h9) rfl dC_isReplica_6 ?_
    refine zc_ge (tgt := 16) hx hb dC_isReplica_9 (by decide) (by omega) (by omega) (fun c => ?_) (fun c => ?_)
    · exact absurd c (by omega)
    · refine lv_iconst (v := nI 1) hx hb dC_isReplica_12 (by decide) ?_
      refine lv_goto (tgt := 17) hx hb dC_isReplica_13 (by decide) ?_
      exact W.zret (v := (nI 1)) (ty := .boolean) hx hb hr rfl (fun t ht hW => ⟨rfl, ht⟩) (fun q h => by cases h) dC_isReplica_17

set_option maxHeartbeats 4000000 in
set_option maxRecDepth 100000 in
/-- isReplica(a), no such -/
theorem kC_isReplica_out (l : Launch) (G : zG) (B : Nat) (M : zw_M) (x n mb z nf se lo go pa : Nat) (hn : n ≤ 8) (hx0 : M x = some (.inr (1, zoC n mb z nf se lo go pa))) (a : Int32) (ha : a < 0 ∨ nI n ≤ a) : Met l yC_isReplica (Cond.code yC_isReplica bC_isReplica 2 (some .boolean) :: zT) { frames := 0, cells := 0, slots := 0, locals := 0 } (zp G B M [.ref x, .int a]) (k2_QcV (.int (nI 0))) 0 0 (fun _ => False) := by
  refine Met.ofW (cc := bC_isReplica) (maxL := 2) (ret := (some .boolean)) (by decide) rfl ?_
  intro p e s m args below meth c s₁ B0 hml hv
  obtain ⟨rfl, hE, hH⟩ := hv
  have hx := B0.exec
  have hb := B0.bytes
  have hr := B0.returns
  have hlocks := B0.notSynchronized
  have hz : ∀ w ∈ zT, w.before _ s = true := fun w h => atoms_spec (ws := Cond.code yC_isReplica bC_isReplica 2 (some .boolean) :: zT) B0.pre w (List.mem_cons_of_mem _ h)
  have hown : s.vm.findClass RC = some m.cls := findClass_of_methodNamed B0.named
  have hK := hE.1
  have hl := lv_entry ([.ref x, .int a]) (n := 2) (Nat.le_of_ble_eq_true rfl)
  rw [lg_entry_eq]
  generalize (lg_sl ([.ref x, .int a]) ++ List.replicate (2 - (lg_sl ([.ref x, .int a])).length) Slot.unset).toArray = ls at hl ⊢
  have hl : lv_has ls 2 [(0, .ref x), (1, .int a)] := hl
  have hS : va_S (zw_A B) s.heap s.heap [] := va_S.rf
  refine lv_iload_n hx hb dC_isReplica_0 rfl (lv_at hl 1 rfl) ?_
  refine lv_if_lt (tgt := 16) hx hb dC_isReplica_1 (by decide) (fun c => ?_) (fun c => ?_)
  · refine lv_iconst (v := nI 0) hx hb dC_isReplica_16 (by decide) ?_
    exact W.zret (v := (nI 0)) (ty := .boolean) hx hb hr rfl (fun t ht hW => ⟨rfl, ht⟩) (fun q h => by cases h) dC_isReplica_17
  · refine lv_iload_n hx hb dC_isReplica_4 rfl (lv_at hl 1 rfl) ?_
    refine lv_aload_n hx hb dC_isReplica_5 rfl (lv_at hl 0 rfl) ?_
    refine va_get (D := G.1) (ci := 1) (v := .int (nI n)) (C := RC) (T := TC) (N := 14) hx hb hz iC hown hK (hH.one hx0) 0 rfl rfl 0 (by decide) (hz _ zm_31) (fun _ h9 => h9) rfl dC_isReplica_6 ?_
    refine lv_icmp_ge (tgt := 16) hx hb dC_isReplica_9 (by decide) (fun c2 => ?_) (fun c2 => ?_)
    · refine lv_iconst (v := nI 0) hx hb dC_isReplica_16 (by decide) ?_
      exact W.zret (v := (nI 0)) (ty := .boolean) hx hb hr rfl (fun t ht hW => ⟨rfl, ht⟩) (fun q h => by cases h) dC_isReplica_17
    · exact absurd (ha.resolve_left c) c2

set_option maxHeartbeats 4000000 in
set_option maxRecDepth 100000 in
theorem kC_actorOf (l : Launch) (G : zG) (B : Nat) (M : zw_M) (c0 : Nat) (hc : c0 < 2 ^ 31) : Met l yC_actorOf (Cond.code yC_actorOf bC_actorOf 1 (some .int) :: zT) { frames := 0, cells := 0, slots := 0, locals := 0 } (zp G B M [.int (nI c0)]) (k2_QcV (.int (nI (c0 % 8)))) 0 0 (fun _ => False) := by
  refine Met.ofW (cc := bC_actorOf) (maxL := 1) (ret := (some .int)) (by decide) rfl ?_
  intro p e s m args below meth c s₁ B0 hml hv
  obtain ⟨rfl, hE, hH⟩ := hv
  have hx := B0.exec
  have hb := B0.bytes
  have hr := B0.returns
  have hlocks := B0.notSynchronized
  have hz : ∀ w ∈ zT, w.before _ s = true := fun w h => atoms_spec (ws := Cond.code yC_actorOf bC_actorOf 1 (some .int) :: zT) B0.pre w (List.mem_cons_of_mem _ h)
  have hown : s.vm.findClass RC = some m.cls := findClass_of_methodNamed B0.named
  have hK := hE.1
  have hl := lv_entry ([.int (nI c0)]) (n := 1) (Nat.le_of_ble_eq_true rfl)
  rw [lg_entry_eq]
  generalize (lg_sl ([.int (nI c0)]) ++ List.replicate (1 - (lg_sl ([.int (nI c0)])).length) Slot.unset).toArray = ls at hl ⊢
  have hl : lv_has ls 1 [(0, .int (nI c0))] := hl
  have hS : va_S (zw_A B) s.heap s.heap [] := va_S.rf
  refine lv_iload_n hx hb dC_actorOf_0 rfl (lv_at hl 0 rfl) ?_
  refine lv_bipush (v := nI 8) hx hb dC_actorOf_1 (by decide) ?_
  refine lv_irem hx hb dC_actorOf_3 (nI_ne0 (by decide) (by decide)) ?_
  refine zw_ti (pk_rem hc (by decide) (by decide)) ?_
  exact W.iret (v := (nI (c0 % 8))) hx hb hr (fun t ht hW => ⟨rfl, ht⟩) (fun q h => by cases h) dC_actorOf_4

set_option maxHeartbeats 4000000 in
set_option maxRecDepth 100000 in
theorem kC_seqOf (l : Launch) (G : zG) (B : Nat) (M : zw_M) (c0 : Nat) (hc : c0 < 2 ^ 31) : Met l yC_seqOf (Cond.code yC_seqOf bC_seqOf 1 (some .int) :: zT) { frames := 0, cells := 0, slots := 0, locals := 0 } (zp G B M [.int (nI c0)]) (k2_QcV (.int (nI (c0 / 8)))) 0 0 (fun _ => False) := by
  refine Met.ofW (cc := bC_seqOf) (maxL := 1) (ret := (some .int)) (by decide) rfl ?_
  intro p e s m args below meth c s₁ B0 hml hv
  obtain ⟨rfl, hE, hH⟩ := hv
  have hx := B0.exec
  have hb := B0.bytes
  have hr := B0.returns
  have hlocks := B0.notSynchronized
  have hz : ∀ w ∈ zT, w.before _ s = true := fun w h => atoms_spec (ws := Cond.code yC_seqOf bC_seqOf 1 (some .int) :: zT) B0.pre w (List.mem_cons_of_mem _ h)
  have hown : s.vm.findClass RC = some m.cls := findClass_of_methodNamed B0.named
  have hK := hE.1
  have hl := lv_entry ([.int (nI c0)]) (n := 1) (Nat.le_of_ble_eq_true rfl)
  rw [lg_entry_eq]
  generalize (lg_sl ([.int (nI c0)]) ++ List.replicate (1 - (lg_sl ([.int (nI c0)])).length) Slot.unset).toArray = ls at hl ⊢
  have hl : lv_has ls 1 [(0, .int (nI c0))] := hl
  have hS : va_S (zw_A B) s.heap s.heap [] := va_S.rf
  refine lv_iload_n hx hb dC_seqOf_0 rfl (lv_at hl 0 rfl) ?_
  refine lv_bipush (v := nI 8) hx hb dC_seqOf_1 (by decide) ?_
  refine lv_idiv hx hb dC_seqOf_3 (nI_ne0 (by decide) (by decide)) ?_
  refine zw_ti (pk_div hc (by decide) (by decide)) ?_
  exact W.iret (v := (nI (c0 / 8))) hx hb hr (fun t ht hW => ⟨rfl, ht⟩) (fun q h => by cases h) dC_seqOf_4

set_option maxHeartbeats 4000000 in
set_option maxRecDepth 100000 in
theorem kC_countIn (l : Launch) (G : zG) (B : Nat) (M : zw_M) (k : Int64) (a : Nat) (ha : a < 8) : Met l yC_countIn (Cond.code yC_countIn bC_countIn 3 (some .int) :: zT) { frames := 0, cells := 0, slots := 0, locals := 0 } (zp G B M [.long k, .int (nI a)]) (k2_QcV (.int (nI (zb k a)))) 0 0 (fun _ => False) := by
  refine Met.ofW (cc := bC_countIn) (maxL := 3) (ret := (some .int)) (by decide) rfl ?_
  intro p e s m args below meth c s₁ B0 hml hv
  obtain ⟨rfl, hE, hH⟩ := hv
  have hx := B0.exec
  have hb := B0.bytes
  have hr := B0.returns
  have hlocks := B0.notSynchronized
  have hz : ∀ w ∈ zT, w.before _ s = true := fun w h => atoms_spec (ws := Cond.code yC_countIn bC_countIn 3 (some .int) :: zT) B0.pre w (List.mem_cons_of_mem _ h)
  have hown : s.vm.findClass RC = some m.cls := findClass_of_methodNamed B0.named
  have hK := hE.1
  have hl := lv_entry ([.long k, .int (nI a)]) (n := 3) (Nat.le_of_ble_eq_true rfl)
  rw [lg_entry_eq]
  generalize (lg_sl ([.long k, .int (nI a)]) ++ List.replicate (3 - (lg_sl ([.long k, .int (nI a)])).length) Slot.unset).toArray = ls at hl ⊢
  have hl : lv_has ls 3 [(0, .long k), (2, .int (nI a))] := hl
  have hS : va_S (zw_A B) s.heap s.heap [] := va_S.rf
  refine lv_lload_n hx hb dC_countIn_0 rfl (lv_at hl 0 rfl) ?_
  refine lv_bipush (v := nI 8) hx hb dC_countIn_1 (by decide) ?_
  refine lv_iload_n hx hb dC_countIn_3 rfl (lv_at hl 1 rfl) ?_
  refine lv_imul hx hb dC_countIn_4 ?_
  refine zw_ti (pk_mul _ _) ?_
  refine lv_lushr hx hb dC_countIn_5 rfl ?_
  refine lv_l2i hx hb dC_countIn_6 rfl ?_
  refine lv_sipush (v := nI 255) hx hb dC_countIn_7 (by decide) ?_
  refine lv_iand hx hb dC_countIn_10 ?_
  refine zw_ti (zb_cnt k ha) ?_
  exact W.iret (v := (nI (zb k a))) hx hb hr (fun t ht hW => ⟨rfl, ht⟩) (fun q h => by cases h) dC_countIn_11

set_option maxHeartbeats 4000000 in
set_option maxRecDepth 100000 in
theorem kC_madeBy (l : Launch) (G : zG) (B : Nat) (M : zw_M) (x n mb z nf se lo go pa : Nat) (hn : n ≤ 8) (hx0 : M x = some (.inr (1, zoC n mb z nf se lo go pa))) (ck : Nat → Int64) (hck : M (z + 1) = some (.inl (G.2.1 1, n, .inr (.inl ck)))) (j : Nat) (hj : j < n) : Met l yC_madeBy (Cond.code yC_madeBy bC_madeBy 2 (some .int) :: zT) { frames := 1, cells := 0, slots := 0, locals := 22 } (zp G B M [.ref x, .int (nI j)]) (k2_QcV (.int (nI (zb (ck j) j)))) 0 0 (fun _ => False) := by
  refine Met.ofW (cc := bC_madeBy) (maxL := 2) (ret := (some .int)) (by decide) rfl ?_
  intro p e s m args below meth c s₁ B0 hml hv
  obtain ⟨rfl, hE, hH⟩ := hv
  have hx := B0.exec
  have hb := B0.bytes
  have hr := B0.returns
  have hlocks := B0.notSynchronized
  have hz : ∀ w ∈ zT, w.before _ s = true := fun w h => atoms_spec (ws := Cond.code yC_madeBy bC_madeBy 2 (some .int) :: zT) B0.pre w (List.mem_cons_of_mem _ h)
  have hown : s.vm.findClass RC = some m.cls := findClass_of_methodNamed B0.named
  have hK := hE.1
  have hl := lv_entry ([.ref x, .int (nI j)]) (n := 2) (Nat.le_of_ble_eq_true rfl)
  rw [lg_entry_eq]
  generalize (lg_sl ([.ref x, .int (nI j)]) ++ List.replicate (2 - (lg_sl ([.ref x, .int (nI j)])).length) Slot.unset).toArray = ls at hl ⊢
  have hl : lv_has ls 2 [(0, .ref x), (1, .int (nI j))] := hl
  have hS : va_S (zw_A B) s.heap s.heap [] := va_S.rf
  refine lv_aload_n hx hb dC_madeBy_0 rfl (lv_at hl 0 rfl) ?_
  refine va_get (D := G.1) (ci := 1) (v := .ref (z + 1)) (C := RC) (T := TC) (N := 14) hx hb hz iC hown hK (hH.one hx0) 0 rfl rfl 3 (by decide) (hz _ zm_34) (fun _ h9 => h9) rfl dC_madeBy_1 ?_
  refine lv_iload_n hx hb dC_madeBy_4 rfl (lv_at hl 1 rfl) ?_
  refine zw_lald hx hb hK hH 1 hck rfl (j) rfl (hj) (by omega) dC_madeBy_5 ?_
  refine lv_iload_n hx hb dC_madeBy_6 rfl (lv_at hl 1 rfl) ?_
  refine zr_S (As := [.long (ck j), .int (nI j)]) (rest := []) ⟨hx, hb, hml, hown, hz⟩ (kC_countIn l G B M (ck j) j (by omega)) (zt_S zm_118 zm_119 zm_1 zm_120) rfl rfl rfl (show _ ∧ _ ∧ _ ∧ _ = some 2 from by decide +kernel) ⟨Nat.le_of_ble_eq_true rfl, Nat.le_of_ble_eq_true rfl⟩ zE_blind (zE_at hE hS) hH hl.1 rfl (Nat.le_of_ble_eq_true rfl) dC_madeBy_7 ⟨Nat.zero_le _, Nat.zero_le _⟩ ?_
  exact W.iret (v := (nI (zb (ck j) j))) hx hb hr (fun t ht hW => ⟨rfl, ht⟩) (fun q h => by cases h) dC_madeBy_10

set_option maxHeartbeats 4000000 in
set_option maxRecDepth 100000 in
theorem kC_messageAt_in (l : Launch) (G : zG) (B : Nat) (M : zw_M) (x n mb z nf se lo go pa : Nat) (hn : n ≤ 8) (hx0 : M x = some (.inr (1, zoC n mb z nf se lo go pa))) (ff : Nat → Option Nat) (hfl : M (z + 5 + 2 * n) = some (.inl (G.2.1 3, 120, .inr (.inr (.inr (.inr ff)))))) (hnf : nf ≤ 120) (j q : Nat) (hj : j < nf) (hq : ff j = some q) : Met l yC_messageAt (Cond.code yC_messageAt bC_messageAt 2 (some (.object "ChangeSync$Message")) :: zT) { frames := 0, cells := 0, slots := 0, locals := 0 } (zp G B M [.ref x, .int (nI j)]) (k2_QcV (.ref q)) 0 0 (fun _ => False) := by
  refine Met.ofW (cc := bC_messageAt) (maxL := 2) (ret := (some (.object "ChangeSync$Message"))) (by decide) rfl ?_
  intro p e s m args below meth c s₁ B0 hml hv
  obtain ⟨rfl, hE, hH⟩ := hv
  have hx := B0.exec
  have hb := B0.bytes
  have hr := B0.returns
  have hlocks := B0.notSynchronized
  have hz : ∀ w ∈ zT, w.before _ s = true := fun w h => atoms_spec (ws := Cond.code yC_messageAt bC_messageAt 2 (some (.object "ChangeSync$Message")) :: zT) B0.pre w (List.mem_cons_of_mem _ h)
  have hown : s.vm.findClass RC = some m.cls := findClass_of_methodNamed B0.named
  have hK := hE.1
  have hl := lv_entry ([.ref x, .int (nI j)]) (n := 2) (Nat.le_of_ble_eq_true rfl)
  rw [lg_entry_eq]
  generalize (lg_sl ([.ref x, .int (nI j)]) ++ List.replicate (2 - (lg_sl ([.ref x, .int (nI j)])).length) Slot.unset).toArray = ls at hl ⊢
  have hl : lv_has ls 2 [(0, .ref x), (1, .int (nI j))] := hl
  have hS : va_S (zw_A B) s.heap s.heap [] := va_S.rf
  refine lv_iload_n hx hb dC_messageAt_0 rfl (lv_at hl 1 rfl) ?_
  refine lv_if_lt (tgt := 21) hx hb dC_messageAt_1 (by decide) (fun c => ?_) (fun c => ?_)
  · exact absurd c (nI_pos (by omega))
  · refine lv_iload_n hx hb dC_messageAt_4 rfl (lv_at hl 1 rfl) ?_
    refine lv_aload_n hx hb dC_messageAt_5 rfl (lv_at hl 0 rfl) ?_
    refine va_get (D := G.1) (ci := 1) (v := .int (nI nf)) (C := RC) (T := TC) (N := 14) hx hb hz iC hown hK (hH.one hx0) 0 rfl rfl 8 (by decide) (hz _ zm_39) (fun _ h9 => h9) rfl dC_messageAt_6 ?_
    refine zc_ge (tgt := 21) hx hb dC_messageAt_9 (by decide) (by omega) (by omega) (fun c => ?_) (fun c => ?_)
    · exact absurd c (by omega)
    · refine lv_aload_n hx hb dC_messageAt_12 rfl (lv_at hl 0 rfl) ?_
      refine va_get (D := G.1) (ci := 1) (v := .ref (z + 5 + 2 * n)) (C := RC) (T := TC) (N := 14) hx hb hz iC hown hK (hH.one hx0) 0 rfl rfl 7 (by decide) (hz _ zm_38) (fun _ h9 => h9) rfl dC_messageAt_13 ?_
      refine lv_iload_n hx hb dC_messageAt_16 rfl (lv_at hl 1 rfl) ?_
      refine zw_aald hx hb hK hH 3 hfl rfl rfl (j) rfl (by omega) (by decide) (v := .ref q) (by rw [hq]; rfl) dC_messageAt_17 ?_
      refine lv_goto (tgt := 22) hx hb dC_messageAt_18 (by decide) ?_
      exact W.aret (v := .ref q) hx hb hr (Or.inl ⟨_, rfl⟩) (Or.inr ⟨_, rfl⟩) (fun t ht hW => ⟨rfl, ht⟩) (fun q h => by cases h) dC_messageAt_22

set_option maxHeartbeats 4000000 in
set_option maxRecDepth 100000 in
theorem kC_messageAt_out (l : Launch) (G : zG) (B : Nat) (M : zw_M) (x n mb z nf se lo go pa : Nat) (hn : n ≤ 8) (hx0 : M x = some (.inr (1, zoC n mb z nf se lo go pa))) (a : Int32) (ha : a < 0 ∨ nI nf ≤ a) : Met l yC_messageAt (Cond.code yC_messageAt bC_messageAt 2 (some (.object "ChangeSync$Message")) :: zT) { frames := 0, cells := 0, slots := 0, locals := 0 } (zp G B M [.ref x, .int a]) (k2_QcV (.null)) 0 0 (fun _ => False) := by
  refine Met.ofW (cc := bC_messageAt) (maxL := 2) (ret := (some (.object "ChangeSync$Message"))) (by decide) rfl ?_
  intro p e s m args below meth c s₁ B0 hml hv
  obtain ⟨rfl, hE, hH⟩ := hv
  have hx := B0.exec
  have hb := B0.bytes
  have hr := B0.returns
  have hlocks := B0.notSynchronized
  have hz : ∀ w ∈ zT, w.before _ s = true := fun w h => atoms_spec (ws := Cond.code yC_messageAt bC_messageAt 2 (some (.object "ChangeSync$Message")) :: zT) B0.pre w (List.mem_cons_of_mem _ h)
  have hown : s.vm.findClass RC = some m.cls := findClass_of_methodNamed B0.named
  have hK := hE.1
  have hl := lv_entry ([.ref x, .int a]) (n := 2) (Nat.le_of_ble_eq_true rfl)
  rw [lg_entry_eq]
  generalize (lg_sl ([.ref x, .int a]) ++ List.replicate (2 - (lg_sl ([.ref x, .int a])).length) Slot.unset).toArray = ls at hl ⊢
  have hl : lv_has ls 2 [(0, .ref x), (1, .int a)] := hl
  have hS : va_S (zw_A B) s.heap s.heap [] := va_S.rf
  refine lv_iload_n hx hb dC_messageAt_0 rfl (lv_at hl 1 rfl) ?_
  refine lv_if_lt (tgt := 21) hx hb dC_messageAt_1 (by decide) (fun c => ?_) (fun c => ?_)
  · refine lv_null hx hb dC_messageAt_21 ?_
    exact W.aret (v := .null) hx hb hr (Or.inl ⟨_, rfl⟩) (Or.inl rfl) (fun t ht hW => ⟨rfl, ht⟩) (fun q h => by cases h) dC_messageAt_22
  · refine lv_iload_n hx hb dC_messageAt_4 rfl (lv_at hl 1 rfl) ?_
    refine lv_aload_n hx hb dC_messageAt_5 rfl (lv_at hl 0 rfl) ?_
    refine va_get (D := G.1) (ci := 1) (v := .int (nI nf)) (C := RC) (T := TC) (N := 14) hx hb hz iC hown hK (hH.one hx0) 0 rfl rfl 8 (by decide) (hz _ zm_39) (fun _ h9 => h9) rfl dC_messageAt_6 ?_
    refine lv_icmp_ge (tgt := 21) hx hb dC_messageAt_9 (by decide) (fun c2 => ?_) (fun c2 => ?_)
    · refine lv_null hx hb dC_messageAt_21 ?_
      exact W.aret (v := .null) hx hb hr (Or.inl ⟨_, rfl⟩) (Or.inl rfl) (fun t ht hW => ⟨rfl, ht⟩) (fun q h => by cases h) dC_messageAt_22
    · exact absurd (ha.resolve_left c) c2

set_option maxHeartbeats 4000000 in
set_option maxRecDepth 100000 in
theorem kM_isClock_yes (l : Launch) (G : zG) (B : Nat) (M : zw_M) (q : Nat) (num snd rcv byt : Int32) (told : Int64) (ch : Nat) (hq0 : M q = some (.inr (0, zoM num snd rcv byt told ch))) (ht : told ≠ -1) : Met l yM_isClock (Cond.code yM_isClock bM_isClock 1 (some .boolean) :: zT) { frames := 0, cells := 0, slots := 0, locals := 0 } (zp G B M [.ref q]) (k2_QcV (.int (nI 1))) 0 0 (fun _ => False) := by
  refine Met.ofW (cc := bM_isClock) (maxL := 1) (ret := (some .boolean)) (by decide) rfl ?_
  intro p e s m args below meth c s₁ B0 hml hv
  obtain ⟨rfl, hE, hH⟩ := hv
  have hx := B0.exec
  have hb := B0.bytes
  have hr := B0.returns
  have hlocks := B0.notSynchronized
  have hz : ∀ w ∈ zT, w.before _ s = true := fun w h => atoms_spec (ws := Cond.code yM_isClock bM_isClock 1 (some .boolean) :: zT) B0.pre w (List.mem_cons_of_mem _ h)
  have hown : s.vm.findClass RM = some m.cls := findClass_of_methodNamed B0.named
  have hK := hE.1
  have hl := lv_entry ([.ref q]) (n := 1) (Nat.le_of_ble_eq_true rfl)
  rw [lg_entry_eq]
  generalize (lg_sl ([.ref q]) ++ List.replicate (1 - (lg_sl ([.ref q])).length) Slot.unset).toArray = ls at hl ⊢
  have hl : lv_has ls 1 [(0, .ref q)] := hl
  have hS : va_S (zw_A B) s.heap s.heap [] := va_S.rf
  refine lv_aload_n hx hb dM_isClock_0 rfl (lv_at hl 0 rfl) ?_
  refine va_get (D := G.1) (ci := 0) (v := .long told) (C := RM) (T := TM) (N := 6) hx hb hz iM hown hK (hH.one hq0) 0 rfl rfl 4 (by decide) (hz _ zm_291) (fun _ h9 => h9) rfl dM_isClock_1 ?_
  refine lv_ldc2 hx hb hown (hz _ zm_324) dM_isClock_4 ?_
  refine W.lcmp hx hb dM_isClock_7 ?_
  refine lv_if_eq (tgt := 15) hx hb dM_isClock_8 (by decide) (fun c => ?_) (fun c => ?_)
  · exact absurd ((lg_cmp_eq _ _).mp c) ht
  · refine lv_iconst (v := nI 1) hx hb dM_isClock_11 (by decide) ?_
    refine lv_goto (tgt := 16) hx hb dM_isClock_12 (by decide) ?_
    exact W.zret (v := (nI 1)) (ty := .boolean) hx hb hr rfl (fun t ht hW => ⟨rfl, ht⟩) (fun q h => by cases h) dM_isClock_16

set_option maxHeartbeats 4000000 in
set_option maxRecDepth 100000 in
theorem kM_isClock_no (l : Launch) (G : zG) (B : Nat) (M : zw_M) (q : Nat) (num snd rcv byt : Int32) (told : Int64) (ch : Nat) (hq0 : M q = some (.inr (0, zoM num snd rcv byt told ch))) (ht : told = -1) : Met l yM_isClock (Cond.code yM_isClock bM_isClock 1 (some .boolean) :: zT) { frames := 0, cells := 0, slots := 0, locals := 0 } (zp G B M [.ref q]) (k2_QcV (.int (nI 0))) 0 0 (fun _ => False) := by
  refine Met.ofW (cc := bM_isClock) (maxL := 1) (ret := (some .boolean)) (by decide) rfl ?_
  intro p e s m args below meth c s₁ B0 hml hv
  obtain ⟨rfl, hE, hH⟩ := hv
  have hx := B0.exec
  have hb := B0.bytes
  have hr := B0.returns
  have hlocks := B0.notSynchronized
  have hz : ∀ w ∈ zT, w.before _ s = true := fun w h => atoms_spec (ws := Cond.code yM_isClock bM_isClock 1 (some .boolean) :: zT) B0.pre w (List.mem_cons_of_mem _ h)
  have hown : s.vm.findClass RM = some m.cls := findClass_of_methodNamed B0.named
  have hK := hE.1
  have hl := lv_entry ([.ref q]) (n := 1) (Nat.le_of_ble_eq_true rfl)
  rw [lg_entry_eq]
  generalize (lg_sl ([.ref q]) ++ List.replicate (1 - (lg_sl ([.ref q])).length) Slot.unset).toArray = ls at hl ⊢
  have hl : lv_has ls 1 [(0, .ref q)] := hl
  have hS : va_S (zw_A B) s.heap s.heap [] := va_S.rf
  refine lv_aload_n hx hb dM_isClock_0 rfl (lv_at hl 0 rfl) ?_
  refine va_get (D := G.1) (ci := 0) (v := .long told) (C := RM) (T := TM) (N := 6) hx hb hz iM hown hK (hH.one hq0) 0 rfl rfl 4 (by decide) (hz _ zm_291) (fun _ h9 => h9) rfl dM_isClock_1 ?_
  refine lv_ldc2 hx hb hown (hz _ zm_324) dM_isClock_4 ?_
  refine W.lcmp hx hb dM_isClock_7 ?_
  refine lv_if_eq (tgt := 15) hx hb dM_isClock_8 (by decide) (fun c => ?_) (fun c => ?_)
  · refine lv_iconst (v := nI 0) hx hb dM_isClock_15 (by decide) ?_
    exact W.zret (v := (nI 0)) (ty := .boolean) hx hb hr rfl (fun t ht hW => ⟨rfl, ht⟩) (fun q h => by cases h) dM_isClock_16
  · exact absurd ((lg_cmp_eq _ _).mpr ht) c

set_option maxHeartbeats 4000000 in
set_option maxRecDepth 100000 in
theorem kC_madeByAll (l : Launch) (G : zG) (B : Nat) (M : zw_M) (x n mb z nf se lo go pa : Nat) (hn : n ≤ 8) (hx0 : M x = some (.inr (1, zoC n mb z nf se lo go pa))) (ck : Nat → Int64) (hck : M (z + 1) = some (.inl (G.2.1 1, n, .inr (.inl ck)))) : Met l yC_madeByAll (Cond.code yC_madeByAll bC_madeByAll 3 (some .int) :: zT) { frames := 2, cells := 0, slots := 0, locals := 43 } (zp G B M [.ref x]) (k2_QcV (.int (nI (zsum (fun a => zb (ck a) a) n)))) 0 0 (fun _ => False) := by
  refine Met.ofW (cc := bC_madeByAll) (maxL := 3) (ret := (some .int)) (by decide) rfl ?_
  intro p e s m args below meth c s₁ B0 hml hv
  obtain ⟨rfl, hE, hH⟩ := hv
  have hx := B0.exec
  have hb := B0.bytes
  have hr := B0.returns
  have hlocks := B0.notSynchronized
  have hz : ∀ w ∈ zT, w.before _ s = true := fun w h => atoms_spec (ws := Cond.code yC_madeByAll bC_madeByAll 3 (some .int) :: zT) B0.pre w (List.mem_cons_of_mem _ h)
  have hown : s.vm.findClass RC = some m.cls := findClass_of_methodNamed B0.named
  have hK := hE.1
  have hl := lv_entry ([.ref x]) (n := 3) (Nat.le_of_ble_eq_true rfl)
  rw [lg_entry_eq]
  generalize (lg_sl ([.ref x]) ++ List.replicate (3 - (lg_sl ([.ref x])).length) Slot.unset).toArray = ls at hl ⊢
  have hl : lv_has ls 3 [(0, .ref x)] := hl
  have hS : va_S (zw_A B) s.heap s.heap [] := va_S.rf
  refine lv_iconst (v := nI 0) hx hb dC_madeByAll_0 (by decide) ?_
  refine lv_istore_n (lv' := [(1, .int (nI 0)), (0, .ref x)]) hx hb dC_madeByAll_1 rfl hl (by decide) rfl (fun ls hl => ?_)
  refine lv_iconst (v := nI 0) hx hb dC_madeByAll_2 (by decide) ?_
  refine lv_istore_n (lv' := [(2, .int (nI 0)), (1, .int (nI 0)), (0, .ref x)]) hx hb dC_madeByAll_3 rfl hl (by decide) rfl (fun ls hl => ?_)
  refine zl_up (Wg := fun ls => W p l e _ s m _ below meth c s.heap [] 0 0 _ (F0 m 4 ls [])) (fun i ls => lv_has ls 3 [(0, .ref x), (1, .int (nI (zsum (fun a => zb (ck a) a) i))), (2, .int (nI i))]) n ?_ (i := 0) (by omega) (lv_sub hl [2, 1, 0] rfl)
  intro i hi ls hl ih
  have hl : lv_has ls 3 [(0, .ref x), (1, .int (nI (zsum (fun a => zb (ck a) a) i))), (2, .int (nI i))] := hl
  refine lv_iload_n hx hb dC_madeByAll_4 rfl (lv_at hl 2 rfl) ?_
  refine lv_aload_n hx hb dC_madeByAll_5 rfl (lv_at hl 0 rfl) ?_
  refine va_get (D := G.1) (ci := 1) (v := .int (nI n)) (C := RC) (T := TC) (N := 14) hx hb hz iC hown hK (hH.one hx0) 0 rfl rfl 0 (by decide) (hz _ zm_31) (fun _ h9 => h9) rfl dC_madeByAll_6 ?_
  refine zc_ge (tgt := 26) hx hb dC_madeByAll_9 (by decide) (by omega) (by omega) (fun c => ?_) (fun c => ?_)
  · have e1 : n = i := by omega
    rw [e1]
    refine lv_iload_n hx hb dC_madeByAll_26 rfl (lv_at hl 1 rfl) ?_
    exact W.iret (v := (nI (zsum (fun a => zb (ck a) a) i))) hx hb hr (fun t ht hW => ⟨rfl, ht⟩) (fun q h => by cases h) dC_madeByAll_27
  · refine lv_iload_n hx hb dC_madeByAll_12 rfl (lv_at hl 1 rfl) ?_
    refine lv_aload_n hx hb dC_madeByAll_13 rfl (lv_at hl 0 rfl) ?_
    refine lv_iload_n hx hb dC_madeByAll_14 rfl (lv_at hl 2 rfl) ?_
    refine zr_V (As := [.int (nI i)]) (rest := [.int (nI (zsum (fun a => zb (ck a) a) i))]) (q := (RC, TC, 14)) ⟨hx, hb, hml, hown, hz⟩ (kC_madeBy l G B M x n mb z nf se lo go pa hn hx0 ck hck i c) (zt_V zm_114 zm_116 zs_3 zm_1 zm_117) rfl rfl rfl (show _ ∧ _ ∧ _ ∧ _ = some 1 from by decide +kernel) ⟨Nat.le_of_ble_eq_true rfl, Nat.le_of_ble_eq_true rfl⟩ zE_blind (zE_at hE hS) hH hK hx0 rfl rfl hl.1 rfl (Nat.le_of_ble_eq_true rfl) dC_madeByAll_15 ⟨Nat.zero_le _, Nat.zero_le _⟩ ?_
    refine lv_iadd hx hb dC_madeByAll_18 ?_
    refine zw_ti (nI_add _ _) ?_
    refine lv_istore_n (lv' := [(1, .int (nI ((zsum (fun a => zb (ck a) a) i) + (zb (ck i) i)))), (0, .ref x), (2, .int (nI i))]) hx hb dC_madeByAll_19 rfl hl (by decide) rfl (fun ls hl => ?_)
    refine lv_iinc (v := (nI (i + 1))) (lv' := [(2, .int (nI (i + 1))), (1, .int (nI ((zsum (fun a => zb (ck a) a) i) + (zb (ck i) i)))), (0, .ref x)]) hx hb dC_madeByAll_20 hl (k := 2) rfl (nI_add _ _) (by decide) rfl (fun ls hl => ?_)
    refine lv_goto (tgt := 4) hx hb dC_madeByAll_23 (by decide) ?_
    exact ih c ls (lv_sub hl [2, 1, 0] rfl)

