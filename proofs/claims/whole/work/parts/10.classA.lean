/-! THE CLASS: its object, its readers -/
/-- the object's fields: n replicas, messages of mb bytes at most; its arrays lie from z on -/
def zoC (n mb z nf se lo go pa : Nat) : List Value := [.int (nI n), .int (nI mb), .ref z, .ref (z + 1), .ref (z + 2), .ref (z + 3 + n), .ref (z + 4 + n), .ref (z + 5 + 2 * n), .int (nI nf), .ref (z + 6 + 2 * n), .int (nI se), .int (nI lo), .int (nI go), .int (nI pa)]
set_option maxHeartbeats 4000000 in
set_option maxRecDepth 100000 in
/-- isReplica(j), j < n -/
theorem kC_isReplica_in (l : Launch) (G : zG) (B : Nat) (M : zw_M) (x n mb z nf se lo go pa : Nat) (hn : n ≤ 8) (hx0 : M x = some (.inr (1, zoC n mb z nf se lo go pa))) (j : Nat) (hj : j < n) : Met l yC_isReplica (Cond.code yC_isReplica bC_isReplica 2 (some .boolean) :: zT) { frames := 0, cells := 0, slots := 0, locals := 0 } (zp G B M [.ref x, .int (nI j)]) (k2_QcV (.int (nI 1))) 0 0 (fun _ => False) := by
  refine Met.ofW (cc := bC_isReplica) (maxL := 2) (ret := (some .boolean)) (by decide) rfl ?_
  intro p e s m args below meth c s₁ B0 hml hv
  obtain ⟨rfl, hE, hH⟩ := hv
  have hx := B0.exec
  have hb := B0.bytes
  have hr := B0.returns
  have hlocks := B0.notSynchronized
  have hz : ∀ w ∈ zT, w.before _ s = true := fun w h => atoms_spec (ws := Cond.code yC_isReplica bC_isReplica 2 (some .boolean) :: zT) B0.pre w (List.mem_cons_of_mem _ h)
  have hown : s.vm.findClass RC = some m.cls := findClass_of_methodNamed B0.named
  have hK := hE.1
  have hl := lv_entry ([.ref x, .int (nI j)]) (n := 2) (Nat.le_of_ble_eq_true rfl)
  rw [lg_entry_eq]
  generalize (lg_sl ([.ref x, .int (nI j)]) ++ List.replicate (2 - (lg_sl ([.ref x, .int (nI j)])).length) Slot.unset).toArray = ls at hl ⊢
  have hl : lv_has ls 2 [(0, .ref x), (1, .int (nI j))] := hl
  have hS : va_S (zw_A B) s.heap s.heap [] := va_S.rf
  refine lv_iload_n hx hb dC_isReplica_0 rfl (lv_at hl 1 rfl) ?_
  refine lv_if_lt (tgt := 16) hx hb dC_isReplica_1 (by decide) (fun c => ?_) (fun c => ?_)
  · exact absurd c (nI_pos (by omega))
  · refine lv_iload_n hx hb dC_isReplica_4 rfl (lv_at hl 1 rfl) ?_
    refine lv_aload_n hx hb dC_isReplica_5 rfl (lv_at hl 0 rfl) ?_
    refine va_get (D := G.1) (ci := 1) (v := .int (nI n)) (C := RC) (T := TC) (N := 14) hx hb hz iC hown hK (hH.one hx0) 0 rfl rfl 0 (by decide) (hz _ zm_31) (fun _ h9 => h9) rfl dC_isReplica_6 ?_
    refine zc_ge (tgt := 16) hx hb dC_isReplica_9 (by decide) (by omega) (by omega) (fun c => ?_) (fun c => ?_)
    · exact absurd c (by omega)
    · refine lv_iconst (v := nI 1) hx hb dC_isReplica_12 (by decide) ?_
      refine lv_goto (tgt := 17) hx hb dC_isReplica_13 (by decide) ?_
      exact W.zret (v := (nI 1)) (ty := .boolean) hx hb hr rfl (fun t ht hW => ⟨rfl, ht⟩) (fun q h => by cases h) dC_isReplica_17

set_option maxHeartbeats 4000000 in
set_option maxRecDepth 100000 in
/-- isReplica(a), no such -/
theorem kC_isReplica_out (l : Launch) (G : zG) (B : Nat) (M : zw_M) (x n mb z nf se lo go pa : Nat) (hn : n ≤ 8) (hx0 : M x = some (.inr (1, zoC n mb z nf se lo go pa))) (a : Int32) (ha : a < 0 ∨ nI n ≤ a) : Met l yC_isReplica (Cond.code yC_isReplica bC_isReplica 2 (some .boolean) :: zT) { frames := 0, cells := 0, slots := 0, locals := 0 } (zp G B M [.ref x, .int a]) (k2_QcV (.int (nI 0))) 0 0 (fun _ => False) := by
  refine Met.ofW (cc := bC_isReplica) (maxL := 2) (ret := (some .boolean)) (by decide) rfl ?_
  intro p e s m args below meth c s₁ B0 hml hv
  obtain ⟨rfl, hE, hH⟩ := hv
  have hx := B0.exec
  have hb := B0.bytes
  have hr := B0.returns
  have hlocks := B0.notSynchronized
  have hz : ∀ w ∈ zT, w.before _ s = true := fun w h => atoms_spec (ws := Cond.code yC_isReplica bC_isReplica 2 (some .boolean) :: zT) B0.pre w (List.mem_cons_of_mem _ h)
  have hown : s.vm.findClass RC = some m.cls := findClass_of_methodNamed B0.named
  have hK := hE.1
  have hl := lv_entry ([.ref x, .int a]) (n := 2) (Nat.le_of_ble_eq_true rfl)
  rw [lg_entry_eq]
  generalize (lg_sl ([.ref x, .int a]) ++ List.replicate (2 - (lg_sl ([.ref x, .int a])).length) Slot.unset).toArray = ls at hl ⊢
  have hl : lv_has ls 2 [(0, .ref x), (1, .int a)] := hl
  have hS : va_S (zw_A B) s.heap s.heap [] := va_S.rf
  refine lv_iload_n hx hb dC_isReplica_0 rfl (lv_at hl 1 rfl) ?_
  refine lv_if_lt (tgt := 16) hx hb dC_isReplica_1 (by decide) (fun c => ?_) (fun c => ?_)
  · refine lv_iconst (v := nI 0) hx hb dC_isReplica_16 (by decide) ?_
    exact W.zret (v := (nI 0)) (ty := .boolean) hx hb hr rfl (fun t ht hW => ⟨rfl, ht⟩) (fun q h => by cases h) dC_isReplica_17
  · refine lv_iload_n hx hb dC_isReplica_4 rfl (lv_at hl 1 rfl) ?_
    refine lv_aload_n hx hb dC_isReplica_5 rfl (lv_at hl 0 rfl) ?_
    refine va_get (D := G.1) (ci := 1) (v := .int (nI n)) (C := RC) (T := TC) (N := 14) hx hb hz iC hown hK (hH.one hx0) 0 rfl rfl 0 (by decide) (hz _ zm_31) (fun _ h9 => h9) rfl dC_isReplica_6 ?_
    refine lv_icmp_ge (tgt := 16) hx hb dC_isReplica_9 (by decide) (fun c2 => ?_) (fun c2 => ?_)
    · refine lv_iconst (v := nI 0) hx hb dC_isReplica_16 (by decide) ?_
      exact W.zret (v := (nI 0)) (ty := .boolean) hx hb hr rfl (fun t ht hW => ⟨rfl, ht⟩) (fun q h => by cases h) dC_isReplica_17
    · exact absurd (ha.resolve_left c) c2

