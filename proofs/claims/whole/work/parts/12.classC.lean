/-! THE CLASS: what writes, with exact maps -/
set_option maxHeartbeats 4000000 in
set_option maxRecDepth 100000 in
theorem kC_count_yes (l : Launch) (G : zG) (B : Nat) (M : zw_M) (sz : Nat) (x n mb z nf se lo go pa : Nat) (hn : n ≤ 8) (hx0 : M x = some (.inr (1, zoC n mb z nf se lo go pa))) (hnf : nf < 120) : Met l yC_countAsSent (Cond.code yC_countAsSent bC_countAsSent 1 (some .boolean) :: zT) { frames := 0, cells := 0, slots := 0, locals := 0 } (zq G B M sz [.ref x]) (va_Qi (fun (r : Int32) (u : zw_M × Nat) => r = nI 1 ∧ u = (zw_u M x (.inr (1, zoC n mb z nf (se + 1) lo go pa)), sz)) (zr_o G.1 zCl B) (zw_A B)) (0) (0) (zw_A B) := by
  refine Met.ofW (cc := bC_countAsSent) (maxL := 1) (ret := (some .boolean)) (by decide) rfl ?_
  intro p e s m args below meth c s₁ B0 hml hv
  obtain ⟨rfl, hE, hH, hsz⟩ := hv
  have hx := B0.exec
  have hb := B0.bytes
  have hr := B0.returns
  have hlocks := B0.notSynchronized
  have hz : ∀ w ∈ zT, w.before _ s = true := fun w h => atoms_spec (ws := Cond.code yC_countAsSent bC_countAsSent 1 (some .boolean) :: zT) B0.pre w (List.mem_cons_of_mem _ h)
  have hown : s.vm.findClass RC = some m.cls := findClass_of_methodNamed B0.named
  have hK := hE.1
  have hl := lv_entry ([.ref x]) (n := 1) (Nat.le_of_ble_eq_true rfl)
  rw [lg_entry_eq]
  generalize (lg_sl ([.ref x]) ++ List.replicate (1 - (lg_sl ([.ref x])).length) Slot.unset).toArray = ls at hl ⊢
  have hl : lv_has ls 1 [(0, .ref x)] := hl
  have hS : va_S (zw_A B) s.heap s.heap [] := va_S.rf
  have hin : meth.name = "countAsSent" := (name_of_methodNamed B0.named B0.method).1
  refine lv_aload_n hx hb dC_countAsSent_0 rfl (lv_at hl 0 rfl) ?_
  refine lv_dup hx hb dC_countAsSent_1 rfl ?_
  refine va_get (D := G.1) (ci := 1) (v := .int (nI se)) (C := RC) (T := TC) (N := 14) hx hb hz iC hown hK (hH.one hx0) 0 rfl rfl 10 (by decide) (hz _ zm_41) (fun _ h9 => h9) rfl dC_countAsSent_2 ?_
  refine lv_iconst (v := nI 1) hx hb dC_countAsSent_5 (by decide) ?_
  refine lv_iadd hx hb dC_countAsSent_6 ?_
  refine zw_ti (nI_add _ _) ?_
  refine zw_put (D := G.1) (ci := 1) (v := .int (nI (se + 1))) (ty := .int) (C := RC) (T := TC) (N := 14) hx hb hz iC tC tC_ok nC hown hK hH hS hx0 rfl 10 (by decide) (hz _ zm_41) (fun _ h9 => h9) rfl (by decide +kernel) rfl rfl (Nat.le_of_ble_eq_true rfl) dC_countAsSent_7 (fun H1 L1 hH hz1 hS => ?_)
  have hsz : H1.size = sz := hz1.trans hsz
  obtain ⟨M1, hM1⟩ : ∃ Mq, Mq = zw_u M x (.inr (1, zoC n mb z nf (se + 1) lo go pa)) := ⟨_, rfl⟩
  have hH : zw_H G.1 zCl B M1 H1 := by rw [hM1]; exact hH
  have hx0 : M1 x = some (.inr (1, zoC n mb z nf (se + 1) lo go pa)) := by rw [hM1]; exact zw_us _ _ _
  refine lv_aload_n hx hb dC_countAsSent_10 rfl (lv_at hl 0 rfl) ?_
  refine va_get (D := G.1) (ci := 1) (v := .int (nI nf)) (C := RC) (T := TC) (N := 14) hx hb hz iC hown hK (hH.one hx0) 0 rfl rfl 8 (by decide) (hz _ zm_39) (fun _ h9 => h9) rfl dC_countAsSent_11 ?_
  refine lv_bipush (v := nI 120) hx hb dC_countAsSent_14 (by decide) ?_
  refine zc_ge (tgt := 21) hx hb dC_countAsSent_16 (by decide) (by omega) (by decide) (fun c => ?_) (fun c => ?_)
  · exact absurd c (by omega)
  · refine lv_iconst (v := nI 1) hx hb dC_countAsSent_19 (by decide) ?_
    exact W.zret (v := (nI 1)) (ty := .boolean) hx hb hr rfl (fun t ht hW => ⟨⟨(nI 1), (M1, sz), rfl, ⟨rfl, by rw [hM1]⟩, by rw [ht]; exact hH, by rw [ht]; exact hsz⟩, hS.F ht⟩) hS.2.2 dC_countAsSent_20

set_option maxHeartbeats 4000000 in
set_option maxRecDepth 100000 in
theorem kC_count_no (l : Launch) (G : zG) (B : Nat) (M : zw_M) (sz : Nat) (x n mb z nf se lo go pa : Nat) (hn : n ≤ 8) (hx0 : M x = some (.inr (1, zoC n mb z nf se lo go pa))) (hnf : nf = 120) : Met l yC_countAsSent (Cond.code yC_countAsSent bC_countAsSent 1 (some .boolean) :: zT) { frames := 0, cells := 0, slots := 0, locals := 0 } (zq G B M sz [.ref x]) (va_Qi (fun (r : Int32) (u : zw_M × Nat) => r = nI 0 ∧ u = (zw_u M x (.inr (1, zoC n mb z nf (se + 1) (lo + 1) go pa)), sz)) (zr_o G.1 zCl B) (zw_A B)) (0) (0) (zw_A B) := by
  refine Met.ofW (cc := bC_countAsSent) (maxL := 1) (ret := (some .boolean)) (by decide) rfl ?_
  intro p e s m args below meth c s₁ B0 hml hv
  obtain ⟨rfl, hE, hH, hsz⟩ := hv
  have hx := B0.exec
  have hb := B0.bytes
  have hr := B0.returns
  have hlocks := B0.notSynchronized
  have hz : ∀ w ∈ zT, w.before _ s = true := fun w h => atoms_spec (ws := Cond.code yC_countAsSent bC_countAsSent 1 (some .boolean) :: zT) B0.pre w (List.mem_cons_of_mem _ h)
  have hown : s.vm.findClass RC = some m.cls := findClass_of_methodNamed B0.named
  have hK := hE.1
  have hl := lv_entry ([.ref x]) (n := 1) (Nat.le_of_ble_eq_true rfl)
  rw [lg_entry_eq]
  generalize (lg_sl ([.ref x]) ++ List.replicate (1 - (lg_sl ([.ref x])).length) Slot.unset).toArray = ls at hl ⊢
  have hl : lv_has ls 1 [(0, .ref x)] := hl
  have hS : va_S (zw_A B) s.heap s.heap [] := va_S.rf
  have hin : meth.name = "countAsSent" := (name_of_methodNamed B0.named B0.method).1
  refine lv_aload_n hx hb dC_countAsSent_0 rfl (lv_at hl 0 rfl) ?_
  refine lv_dup hx hb dC_countAsSent_1 rfl ?_
  refine va_get (D := G.1) (ci := 1) (v := .int (nI se)) (C := RC) (T := TC) (N := 14) hx hb hz iC hown hK (hH.one hx0) 0 rfl rfl 10 (by decide) (hz _ zm_41) (fun _ h9 => h9) rfl dC_countAsSent_2 ?_
  refine lv_iconst (v := nI 1) hx hb dC_countAsSent_5 (by decide) ?_
  refine lv_iadd hx hb dC_countAsSent_6 ?_
  refine zw_ti (nI_add _ _) ?_
  refine zw_put (D := G.1) (ci := 1) (v := .int (nI (se + 1))) (ty := .int) (C := RC) (T := TC) (N := 14) hx hb hz iC tC tC_ok nC hown hK hH hS hx0 rfl 10 (by decide) (hz _ zm_41) (fun _ h9 => h9) rfl (by decide +kernel) rfl rfl (Nat.le_of_ble_eq_true rfl) dC_countAsSent_7 (fun H1 L1 hH hz1 hS => ?_)
  have hsz : H1.size = sz := hz1.trans hsz
  obtain ⟨M1, hM1⟩ : ∃ Mq, Mq = zw_u M x (.inr (1, zoC n mb z nf (se + 1) lo go pa)) := ⟨_, rfl⟩
  have hH : zw_H G.1 zCl B M1 H1 := by rw [hM1]; exact hH
  have hx0 : M1 x = some (.inr (1, zoC n mb z nf (se + 1) lo go pa)) := by rw [hM1]; exact zw_us _ _ _
  refine lv_aload_n hx hb dC_countAsSent_10 rfl (lv_at hl 0 rfl) ?_
  refine va_get (D := G.1) (ci := 1) (v := .int (nI nf)) (C := RC) (T := TC) (N := 14) hx hb hz iC hown hK (hH.one hx0) 0 rfl rfl 8 (by decide) (hz _ zm_39) (fun _ h9 => h9) rfl dC_countAsSent_11 ?_
  refine lv_bipush (v := nI 120) hx hb dC_countAsSent_14 (by decide) ?_
  refine zc_ge (tgt := 21) hx hb dC_countAsSent_16 (by decide) (by omega) (by decide) (fun c => ?_) (fun c => ?_)
  · refine lv_aload_n hx hb dC_countAsSent_21 rfl (lv_at hl 0 rfl) ?_
    refine lv_dup hx hb dC_countAsSent_22 rfl ?_
    refine va_get (D := G.1) (ci := 1) (v := .int (nI lo)) (C := RC) (T := TC) (N := 14) hx hb hz iC hown hK (hH.one hx0) 0 rfl rfl 11 (by decide) (hz _ zm_42) (fun _ h9 => h9) rfl dC_countAsSent_23 ?_
    refine lv_iconst (v := nI 1) hx hb dC_countAsSent_26 (by decide) ?_
    refine lv_iadd hx hb dC_countAsSent_27 ?_
    refine zw_ti (nI_add _ _) ?_
    refine zw_put (D := G.1) (ci := 1) (v := .int (nI (lo + 1))) (ty := .int) (C := RC) (T := TC) (N := 14) hx hb hz iC tC tC_ok nC hown hK hH hS hx0 rfl 11 (by decide) (hz _ zm_42) (fun _ h9 => h9) rfl (by decide +kernel) rfl rfl (Nat.le_of_ble_eq_true rfl) dC_countAsSent_28 (fun H2 L2 hH hz1 hS => ?_)
    have hsz : H2.size = sz := hz1.trans hsz
    obtain ⟨M2, hM2⟩ : ∃ Mq, Mq = zw_u M1 x (.inr (1, zoC n mb z nf (se + 1) (lo + 1) go pa)) := ⟨_, rfl⟩
    have hH : zw_H G.1 zCl B M2 H2 := by rw [hM2]; exact hH
    have hx0 : M2 x = some (.inr (1, zoC n mb z nf (se + 1) (lo + 1) go pa)) := by rw [hM2]; exact zw_us _ _ _
    refine lv_iconst (v := nI 0) hx hb dC_countAsSent_31 (by decide) ?_
    exact W.zret (v := (nI 0)) (ty := .boolean) hx hb hr rfl (fun t ht hW => ⟨⟨(nI 0), (M2, sz), rfl, ⟨rfl, by rw [hM2, hM1, zw_uu]⟩, by rw [ht]; exact hH, by rw [ht]; exact hsz⟩, hS.F ht⟩) hS.2.2 dC_countAsSent_32
  · exact absurd c (by omega)

set_option maxHeartbeats 4000000 in
set_option maxRecDepth 100000 in
theorem kC_put (l : Launch) (G : zG) (B : Nat) (M : zw_M) (sz : Nat) (x n mb z nf se lo go pa : Nat) (hn : n ≤ 8) (hx0 : M x = some (.inr (1, zoC n mb z nf se lo go pa))) (ff : Nat → Option Nat) (hfl : M (z + 5 + 2 * n) = some (.inl (G.2.1 3, 120, .inr (.inr (.inr (.inr ff)))))) (hxz : x < z) (hnf : nf < 120) (q : Nat) (qs : List Value) (hq0 : M q = some (.inr (0, qs))) : Met l yC_putInFlight (Cond.code yC_putInFlight bC_putInFlight 2 none :: zT) { frames := 0, cells := 0, slots := 0, locals := 0 } (zq G B M sz [.ref x, .ref q]) (va_Qv (fun (u : zw_M × Nat) => u = (zw_u (zw_u M (z + 5 + 2 * n) (.inl (G.2.1 3, 120, .inr (.inr (.inr (.inr (va_up ff nf (some q)))))))) x (.inr (1, zoC n mb z (nf + 1) se lo go pa)), sz)) (zr_o G.1 zCl B) (zw_A B)) (0) (0) (zw_A B) := by
  refine Met.ofW (cc := bC_putInFlight) (maxL := 2) (ret := none) (by decide) rfl ?_
  intro p e s m args below meth c s₁ B0 hml hv
  obtain ⟨rfl, hE, hH, hsz⟩ := hv
  have hx := B0.exec
  have hb := B0.bytes
  have hr := B0.returns
  have hlocks := B0.notSynchronized
  have hz : ∀ w ∈ zT, w.before _ s = true := fun w h => atoms_spec (ws := Cond.code yC_putInFlight bC_putInFlight 2 none :: zT) B0.pre w (List.mem_cons_of_mem _ h)
  have hown : s.vm.findClass RC = some m.cls := findClass_of_methodNamed B0.named
  have hK := hE.1
  have hl := lv_entry ([.ref x, .ref q]) (n := 2) (Nat.le_of_ble_eq_true rfl)
  rw [lg_entry_eq]
  generalize (lg_sl ([.ref x, .ref q]) ++ List.replicate (2 - (lg_sl ([.ref x, .ref q])).length) Slot.unset).toArray = ls at hl ⊢
  have hl : lv_has ls 2 [(0, .ref x), (1, .ref q)] := hl
  have hS : va_S (zw_A B) s.heap s.heap [] := va_S.rf
  have hin : meth.name = "putInFlight" := (name_of_methodNamed B0.named B0.method).1
  refine lv_aload_n hx hb dC_putInFlight_0 rfl (lv_at hl 0 rfl) ?_
  refine va_get (D := G.1) (ci := 1) (v := .int (nI nf)) (C := RC) (T := TC) (N := 14) hx hb hz iC hown hK (hH.one hx0) 0 rfl rfl 8 (by decide) (hz _ zm_39) (fun _ h9 => h9) rfl dC_putInFlight_1 ?_
  refine lv_aload_n hx hb dC_putInFlight_4 rfl (lv_at hl 0 rfl) ?_
  refine va_get (D := G.1) (ci := 1) (v := .ref (z + 5 + 2 * n)) (C := RC) (T := TC) (N := 14) hx hb hz iC hown hK (hH.one hx0) 0 rfl rfl 7 (by decide) (hz _ zm_38) (fun _ h9 => h9) rfl dC_putInFlight_5 ?_
  refine zw_alen hx hb hK hH 3 hfl rfl dC_putInFlight_8 ?_
  refine zw_ti (v' := nI 120) rfl ?_
  refine zc_ge (tgt := 32) hx hb dC_putInFlight_9 (by decide) (by omega) (by decide) (fun c => ?_) (fun c => ?_)
  · exact absurd c (by omega)
  · refine lv_aload_n hx hb dC_putInFlight_12 rfl (lv_at hl 0 rfl) ?_
    refine va_get (D := G.1) (ci := 1) (v := .ref (z + 5 + 2 * n)) (C := RC) (T := TC) (N := 14) hx hb hz iC hown hK (hH.one hx0) 0 rfl rfl 7 (by decide) (hz _ zm_38) (fun _ h9 => h9) rfl dC_putInFlight_13 ?_
    refine lv_aload_n hx hb dC_putInFlight_16 rfl (lv_at hl 0 rfl) ?_
    refine va_get (D := G.1) (ci := 1) (v := .int (nI nf)) (C := RC) (T := TC) (N := 14) hx hb hz iC hown hK (hH.one hx0) 0 rfl rfl 8 (by decide) (hz _ zm_39) (fun _ h9 => h9) rfl dC_putInFlight_17 ?_
    refine lv_aload_n hx hb dC_putInFlight_20 rfl (lv_at hl 1 rfl) ?_
    refine zw_aast hx hb hK hH hS 3 0 hfl (r := (RM, TM, 6)) rfl hq0 rfl (nf) rfl (hnf) (by decide) dC_putInFlight_21 (fun H1 L1 hH hz1 hS => ?_)
    have hsz : H1.size = sz := hz1.trans hsz
    obtain ⟨M1, hM1⟩ : ∃ Mq, Mq = zw_u M (z + 5 + 2 * n) (.inl (G.2.1 3, 120, .inr (.inr (.inr (.inr (va_up ff nf (some q))))))) := ⟨_, rfl⟩
    have hH : zw_H G.1 zCl B M1 H1 := by rw [hM1]; exact hH
    have hx0 : M1 x = some (.inr (1, zoC n mb z nf se lo go pa)) := by rw [hM1, zw_un _ _ (by omega)]; exact hx0
    have hfl : M1 (z + 5 + 2 * n) = some (.inl (G.2.1 3, 120, .inr (.inr (.inr (.inr (va_up ff nf (some q))))))) := by rw [hM1]; exact zw_us _ _ _
    refine lv_aload_n hx hb dC_putInFlight_22 rfl (lv_at hl 0 rfl) ?_
    refine lv_dup hx hb dC_putInFlight_23 rfl ?_
    refine va_get (D := G.1) (ci := 1) (v := .int (nI nf)) (C := RC) (T := TC) (N := 14) hx hb hz iC hown hK (hH.one hx0) 0 rfl rfl 8 (by decide) (hz _ zm_39) (fun _ h9 => h9) rfl dC_putInFlight_24 ?_
    refine lv_iconst (v := nI 1) hx hb dC_putInFlight_27 (by decide) ?_
    refine lv_iadd hx hb dC_putInFlight_28 ?_
    refine zw_ti (nI_add _ _) ?_
    refine zw_put (D := G.1) (ci := 1) (v := .int (nI (nf + 1))) (ty := .int) (C := RC) (T := TC) (N := 14) hx hb hz iC tC tC_ok nC hown hK hH hS hx0 rfl 8 (by decide) (hz _ zm_39) (fun _ h9 => h9) rfl (by decide +kernel) rfl rfl (Nat.le_of_ble_eq_true rfl) dC_putInFlight_29 (fun H2 L2 hH hz1 hS => ?_)
    have hsz : H2.size = sz := hz1.trans hsz
    obtain ⟨M2, hM2⟩ : ∃ Mq, Mq = zw_u M1 x (.inr (1, zoC n mb z (nf + 1) se lo go pa)) := ⟨_, rfl⟩
    have hH : zw_H G.1 zCl B M2 H2 := by rw [hM2]; exact hH
    have hfl : M2 (z + 5 + 2 * n) = some (.inl (G.2.1 3, 120, .inr (.inr (.inr (.inr (va_up ff nf (some q))))))) := by rw [hM2, zw_un _ _ (by omega)]; exact hfl
    have hx0 : M2 x = some (.inr (1, zoC n mb z (nf + 1) se lo go pa)) := by rw [hM2]; exact zw_us _ _ _
    exact W.vret hx hb hr (fun t ht hW => ⟨⟨(M2, sz), rfl, by rw [hM2, hM1], by rw [ht]; exact hH, by rw [ht]; exact hsz⟩, hS.F ht⟩) hS.2.2 dC_putInFlight_32

