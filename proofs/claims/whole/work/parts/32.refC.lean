/-! THE REFERENCE: what is seen -/
theorem zRR.cnt {G : zG} {M : zw_M} {x z n mb : Nat} {st : zSt} {th pt : Nat} {Y : zRX} {M' : zw_M} {st' : zSt} {th' pt' : Nat} (h : zRR G M x z n mb st th pt Y) (e1 : st'.dn = st.dn) (e2 : st'.lg = st.lg) (e3 : st'.wt = st.wt) (e4 : st'.fl = st.fl) (ho : M' x = some (.inr (2, zoR th' n mb z st'.fl.length st'.se st'.lo st'.go st'.pa pt'))) (hk : ∀ (a : Nat) (e : va_E), a ≠ x → M a = some e → M' a = some e) : zRR G M' x z n mb st' th' pt' Y := by
  have h1 := h.xz
  unfold zRR
  rw [e1, e2, e3, e4]
  rw [e4] at ho
  exact ⟨h.xz, ho, hk _ _ (by omega) h.dn, hk _ _ (by omega) h.md, hk _ _ (by omega) h.wt, hk _ _ (by omega) h.has, hk _ _ (by omega) h.mn, hk _ _ (by omega) h.rw, hk _ _ (by omega) h.nu, hk _ _ (by omega) h.fr, hk _ _ (by omega) h.to, hk _ _ (by omega) h.si, hk _ _ (by omega) h.cl, hk _ _ (by omega) h.ins, hk _ _ (by omega) h.part, h.rwb, h.rwi, h.msg⟩
set_option maxHeartbeats 4000000 in
set_option maxRecDepth 100000 in
theorem kR_clock_in (l : Launch) (G : zG) (B : Nat) (M : zw_M) (sz : Nat) (x z n mb : Nat) (st : zSt) (th pt : Nat) (Y : zRX) (hn : n ≤ 8) (hR : zRR G M x z n mb st th pt Y) (hok : zOK n st) (j : Nat) (hj : j < n) : Met l yR_clock (Cond.code yR_clock bR_clock 2 (some .long) :: zT) { frames := 2, cells := 0, slots := 0, locals := 50 } (zq G B M sz [.ref x, .int (nI j)]) (va_Ql (fun (r : Int64) (u : zw_M × Nat) => r = zck (st.lg j) ∧ zRO G x z n mb sz M st 0 u) (zr_o G.1 zCl B) (zw_A B)) (0) (0) (zw_A B) := by
  refine Met.ofW (cc := bR_clock) (maxL := 2) (ret := (some .long)) (by decide) rfl ?_
  intro p e s m args below meth c s₁ B0 hml hv
  obtain ⟨rfl, hE, hH, hsz⟩ := hv
  have hx := B0.exec
  have hb := B0.bytes
  have hr := B0.returns
  have hlocks := B0.notSynchronized
  have hz : ∀ w ∈ zT, w.before _ s = true := fun w h => atoms_spec (ws := Cond.code yR_clock bR_clock 2 (some .long) :: zT) B0.pre w (List.mem_cons_of_mem _ h)
  have hown : s.vm.findClass RR = some m.cls := findClass_of_methodNamed B0.named
  have hK := hE.1
  have hl := lv_entry ([.ref x, .int (nI j)]) (n := 2) (Nat.le_of_ble_eq_true rfl)
  rw [lg_entry_eq]
  generalize (lg_sl ([.ref x, .int (nI j)]) ++ List.replicate (2 - (lg_sl ([.ref x, .int (nI j)])).length) Slot.unset).toArray = ls at hl ⊢
  have hl : lv_has ls 2 [(0, .ref x), (1, .int (nI j))] := hl
  have hS : va_S (zw_A B) s.heap s.heap [] := va_S.rf
  have hin : meth.name = "clock" := (name_of_methodNamed B0.named B0.method).1
  have hx0 := hR.obj
  have hxz := hR.xz
  refine lv_aload_n hx hb dR_clock_0 rfl (lv_at hl 0 rfl) ?_
  refine lv_aload_n hx hb dR_clock_1 rfl (lv_at hl 0 rfl) ?_
  refine lv_iload_n hx hb dR_clock_2 rfl (lv_at hl 1 rfl) ?_
  refine zr_V (As := [.int (nI j)]) (rest := [.ref x]) (q := (RR, TR, 22)) ⟨hx, hb, hml, hown, hz⟩ (kR_isReplica_in l G B M x z n mb st th pt Y hn hR j hj) (zt_V zm_463 zm_465 zs_15 zm_3 zm_466) rfl rfl rfl (show _ ∧ _ ∧ _ ∧ _ = some 1 from by decide +kernel) ⟨Nat.le_of_ble_eq_true rfl, Nat.le_of_ble_eq_true rfl⟩ zE_blind (zE_at hE hS) hH hK hx0 rfl rfl hl.1 rfl (Nat.le_of_ble_eq_true rfl) dR_clock_3 ⟨Nat.le_of_ble_eq_true rfl, Nat.le_of_ble_eq_true rfl⟩ ?_
  refine zc_eq0 (tgt := 13) hx hb dR_clock_6 (by decide) (by decide) (fun b1 => ?_) (fun b1 => ?_)
  · exact absurd b1 (by decide)
  · refine lv_iconst (v := nI 0) hx hb dR_clock_9 (by decide) ?_
    refine lv_goto (tgt := 14) hx hb dR_clock_10 (by decide) ?_
    refine zw_put (D := G.1) (ci := 2) (v := .int (nI 0)) (ty := .int) (C := RR) (T := TR) (N := 22) hx hb hz iR tR tR_ok nR hown hK hH hS hx0 rfl 0 (by decide) (hz _ zm_388) (fun _ h9 => h9) rfl (by decide +kernel) rfl rfl (Nat.le_of_ble_eq_true rfl) dR_clock_14 (fun H1 L1 hH hz1 hS => ?_)
    have hsz : H1.size = sz := hz1.trans hsz
    obtain ⟨M1, hM1⟩ : ∃ Mq, Mq = zw_u M x (.inr (2, zoR 0 n mb z st.fl.length st.se st.lo st.go st.pa pt)) := ⟨_, rfl⟩
    have hH : zw_H G.1 zCl B M1 H1 := by rw [hM1]; exact hH
    have hx0 : M1 x = some (.inr (2, zoR 0 n mb z st.fl.length st.se st.lo st.go st.pa pt)) := by rw [hM1]; exact zw_us _ _ _
    refine lv_aload_n hx hb dR_clock_17 rfl (lv_at hl 0 rfl) ?_
    refine va_get (D := G.1) (ci := 2) (v := .int (nI 0)) (C := RR) (T := TR) (N := 22) hx hb hz iR hown hK (hH.one hx0) 0 rfl rfl 0 (by decide) (hz _ zm_388) (fun _ h9 => h9) rfl dR_clock_18 ?_
    refine zc_le0 (tgt := 28) hx hb dR_clock_21 (by decide) (by decide) (fun b2 => ?_) (fun b2 => ?_)
    · refine lv_aload_n hx hb dR_clock_28 rfl (lv_at hl 0 rfl) ?_
      refine lv_iload_n hx hb dR_clock_29 rfl (lv_at hl 1 rfl) ?_
      have hkx : ∀ a : Nat, a ≠ x → M1 a = M a := fun a h1 => by rw [hM1, zw_un _ _ h1]
      have hRn : zRR G M1 x z n mb st 0 pt Y := hR.cnt (st' := st) rfl rfl rfl rfl hx0 (fun a e h1 h2 => (hkx a h1).trans h2)
      refine zr_V (As := [.int (nI j)]) (rest := []) (q := (RR, TR, 22)) ⟨hx, hb, hml, hown, hz⟩ (kR_clockOf l G B M1 x z n mb st 0 pt Y hn hRn hok j hj) (zt_V zm_475 zm_477 zs_17 zm_3 zm_478) rfl rfl rfl (show _ ∧ _ ∧ _ ∧ _ = some 1 from by decide +kernel) ⟨Nat.le_of_ble_eq_true rfl, Nat.le_of_ble_eq_true rfl⟩ zE_blind (zE_at hE hS) hH hK hx0 rfl rfl hl.1 rfl (Nat.le_of_ble_eq_true rfl) dR_clock_30 ⟨Nat.le_of_ble_eq_true rfl, Nat.le_of_ble_eq_true rfl⟩ ?_
      have hkx : ∀ a : Nat, a ≠ x → M1 a = M a := fun a h1 => by rw [hM1, zw_un _ _ h1]
      exact W.lret (v := (zck (st.lg j))) hx hb hr (fun t ht hW => ⟨⟨(zck (st.lg j)), (M1, sz), rfl, ⟨rfl, ⟨pt, Y, hR.cnt (st' := st) rfl rfl rfl rfl hx0 (fun a e h1 h2 => (hkx a h1).trans h2)⟩, fun q h1 h2 => hkx q h1, rfl⟩, by rw [ht]; exact hH, by rw [ht]; exact hsz⟩, hS.F ht⟩) hS.2.2 dR_clock_33
    · exact absurd b2 (by decide)

set_option maxHeartbeats 4000000 in
set_option maxRecDepth 100000 in
theorem kR_clock_out (l : Launch) (G : zG) (B : Nat) (M : zw_M) (sz : Nat) (x z n mb : Nat) (st : zSt) (th pt : Nat) (Y : zRX) (hn : n ≤ 8) (hR : zRR G M x z n mb st th pt Y) (a : Int32) (ha : a < 0 ∨ nI n ≤ a) : Met l yR_clock (Cond.code yR_clock bR_clock 2 (some .long) :: zT) { frames := 1, cells := 0, slots := 0, locals := 24 } (zq G B M sz [.ref x, .int a]) (va_Ql (fun (r : Int64) (u : zw_M × Nat) => r = 0 ∧ zRO G x z n mb sz M st 1 u) (zr_o G.1 zCl B) (zw_A B)) (0) (0) (zw_A B) := by
  refine Met.ofW (cc := bR_clock) (maxL := 2) (ret := (some .long)) (by decide) rfl ?_
  intro p e s m args below meth c s₁ B0 hml hv
  obtain ⟨rfl, hE, hH, hsz⟩ := hv
  have hx := B0.exec
  have hb := B0.bytes
  have hr := B0.returns
  have hlocks := B0.notSynchronized
  have hz : ∀ w ∈ zT, w.before _ s = true := fun w h => atoms_spec (ws := Cond.code yR_clock bR_clock 2 (some .long) :: zT) B0.pre w (List.mem_cons_of_mem _ h)
  have hown : s.vm.findClass RR = some m.cls := findClass_of_methodNamed B0.named
  have hK := hE.1
  have hl := lv_entry ([.ref x, .int a]) (n := 2) (Nat.le_of_ble_eq_true rfl)
  rw [lg_entry_eq]
  generalize (lg_sl ([.ref x, .int a]) ++ List.replicate (2 - (lg_sl ([.ref x, .int a])).length) Slot.unset).toArray = ls at hl ⊢
  have hl : lv_has ls 2 [(0, .ref x), (1, .int a)] := hl
  have hS : va_S (zw_A B) s.heap s.heap [] := va_S.rf
  have hin : meth.name = "clock" := (name_of_methodNamed B0.named B0.method).1
  have hx0 := hR.obj
  have hxz := hR.xz
  refine lv_aload_n hx hb dR_clock_0 rfl (lv_at hl 0 rfl) ?_
  refine lv_aload_n hx hb dR_clock_1 rfl (lv_at hl 0 rfl) ?_
  refine lv_iload_n hx hb dR_clock_2 rfl (lv_at hl 1 rfl) ?_
  refine zr_V (As := [.int a]) (rest := [.ref x]) (q := (RR, TR, 22)) ⟨hx, hb, hml, hown, hz⟩ (kR_isReplica_out l G B M x z n mb st th pt Y hn hR a ha) (zt_V zm_463 zm_465 zs_15 zm_3 zm_466) rfl rfl rfl (show _ ∧ _ ∧ _ ∧ _ = some 1 from by decide +kernel) ⟨Nat.le_of_ble_eq_true rfl, Nat.le_of_ble_eq_true rfl⟩ zE_blind (zE_at hE hS) hH hK hx0 rfl rfl hl.1 rfl (Nat.le_of_ble_eq_true rfl) dR_clock_3 ⟨Nat.le_of_ble_eq_true rfl, Nat.le_of_ble_eq_true rfl⟩ ?_
  refine zc_eq0 (tgt := 13) hx hb dR_clock_6 (by decide) (by decide) (fun b3 => ?_) (fun b3 => ?_)
  · refine lv_iconst (v := nI 1) hx hb dR_clock_13 (by decide) ?_
    refine zw_put (D := G.1) (ci := 2) (v := .int (nI 1)) (ty := .int) (C := RR) (T := TR) (N := 22) hx hb hz iR tR tR_ok nR hown hK hH hS hx0 rfl 0 (by decide) (hz _ zm_388) (fun _ h9 => h9) rfl (by decide +kernel) rfl rfl (Nat.le_of_ble_eq_true rfl) dR_clock_14 (fun H1 L1 hH hz1 hS => ?_)
    have hsz : H1.size = sz := hz1.trans hsz
    obtain ⟨M1, hM1⟩ : ∃ Mq, Mq = zw_u M x (.inr (2, zoR 1 n mb z st.fl.length st.se st.lo st.go st.pa pt)) := ⟨_, rfl⟩
    have hH : zw_H G.1 zCl B M1 H1 := by rw [hM1]; exact hH
    have hx0 : M1 x = some (.inr (2, zoR 1 n mb z st.fl.length st.se st.lo st.go st.pa pt)) := by rw [hM1]; exact zw_us _ _ _
    refine lv_aload_n hx hb dR_clock_17 rfl (lv_at hl 0 rfl) ?_
    refine va_get (D := G.1) (ci := 2) (v := .int (nI 1)) (C := RR) (T := TR) (N := 22) hx hb hz iR hown hK (hH.one hx0) 0 rfl rfl 0 (by decide) (hz _ zm_388) (fun _ h9 => h9) rfl dR_clock_18 ?_
    refine zc_le0 (tgt := 28) hx hb dR_clock_21 (by decide) (by decide) (fun b4 => ?_) (fun b4 => ?_)
    · exact absurd b4 (by decide)
    · refine lv_lconst (v := 0) hx hb dR_clock_24 (by decide) ?_
      refine lv_goto (tgt := 33) hx hb dR_clock_25 (by decide) ?_
      have hkx : ∀ a : Nat, a ≠ x → M1 a = M a := fun a h1 => by rw [hM1, zw_un _ _ h1]
      exact W.lret (v := 0) hx hb hr (fun t ht hW => ⟨⟨0, (M1, sz), rfl, ⟨rfl, ⟨pt, Y, hR.cnt (st' := st) rfl rfl rfl rfl hx0 (fun a e h1 h2 => (hkx a h1).trans h2)⟩, fun q h1 h2 => hkx q h1, rfl⟩, by rw [ht]; exact hH, by rw [ht]; exact hsz⟩, hS.F ht⟩) hS.2.2 dR_clock_33
  · exact absurd b3 (by decide)

set_option maxHeartbeats 4000000 in
set_option maxRecDepth 100000 in
theorem kR_lacks_in (l : Launch) (G : zG) (B : Nat) (M : zw_M) (sz : Nat) (x z n mb : Nat) (st : zSt) (th pt : Nat) (Y : zRX) (hn : n ≤ 8) (hR : zRR G M x z n mb st th pt Y) (j : Nat) (hj : j < n) (hle : (st.lg j).length ≤ zsum (fun a => (st.wt a).length) n) : Met l yR_lacks (Cond.code yR_lacks bR_lacks 2 (some .int) :: zT) { frames := 1, cells := 0, slots := 0, locals := 24 } (zq G B M sz [.ref x, .int (nI j)]) (va_Qi (fun (r : Int32) (u : zw_M × Nat) => r = nI (zsum (fun a => (st.wt a).length) n - (st.lg j).length) ∧ zRO G x z n mb sz M st 0 u) (zr_o G.1 zCl B) (zw_A B)) (0) (0) (zw_A B) := by
  refine Met.ofW (cc := bR_lacks) (maxL := 2) (ret := (some .int)) (by decide) rfl ?_
  intro p e s m args below meth c s₁ B0 hml hv
  obtain ⟨rfl, hE, hH, hsz⟩ := hv
  have hx := B0.exec
  have hb := B0.bytes
  have hr := B0.returns
  have hlocks := B0.notSynchronized
  have hz : ∀ w ∈ zT, w.before _ s = true := fun w h => atoms_spec (ws := Cond.code yR_lacks bR_lacks 2 (some .int) :: zT) B0.pre w (List.mem_cons_of_mem _ h)
  have hown : s.vm.findClass RR = some m.cls := findClass_of_methodNamed B0.named
  have hK := hE.1
  have hl := lv_entry ([.ref x, .int (nI j)]) (n := 2) (Nat.le_of_ble_eq_true rfl)
  rw [lg_entry_eq]
  generalize (lg_sl ([.ref x, .int (nI j)]) ++ List.replicate (2 - (lg_sl ([.ref x, .int (nI j)])).length) Slot.unset).toArray = ls at hl ⊢
  have hl : lv_has ls 2 [(0, .ref x), (1, .int (nI j))] := hl
  have hS : va_S (zw_A B) s.heap s.heap [] := va_S.rf
  have hin : meth.name = "lacks" := (name_of_methodNamed B0.named B0.method).1
  have hx0 := hR.obj
  have hmn := hR.mn
  have hxz := hR.xz
  refine lv_aload_n hx hb dR_lacks_0 rfl (lv_at hl 0 rfl) ?_
  refine lv_aload_n hx hb dR_lacks_1 rfl (lv_at hl 0 rfl) ?_
  refine lv_iload_n hx hb dR_lacks_2 rfl (lv_at hl 1 rfl) ?_
  refine zr_V (As := [.int (nI j)]) (rest := [.ref x]) (q := (RR, TR, 22)) ⟨hx, hb, hml, hown, hz⟩ (kR_isReplica_in l G B M x z n mb st th pt Y hn hR j hj) (zt_V zm_463 zm_465 zs_15 zm_3 zm_466) rfl rfl rfl (show _ ∧ _ ∧ _ ∧ _ = some 1 from by decide +kernel) ⟨Nat.le_of_ble_eq_true rfl, Nat.le_of_ble_eq_true rfl⟩ zE_blind (zE_at hE hS) hH hK hx0 rfl rfl hl.1 rfl (Nat.le_of_ble_eq_true rfl) dR_lacks_3 ⟨Nat.le_of_ble_eq_true rfl, Nat.le_of_ble_eq_true rfl⟩ ?_
  refine zc_eq0 (tgt := 13) hx hb dR_lacks_6 (by decide) (by decide) (fun b5 => ?_) (fun b5 => ?_)
  · exact absurd b5 (by decide)
  · refine lv_iconst (v := nI 0) hx hb dR_lacks_9 (by decide) ?_
    refine lv_goto (tgt := 14) hx hb dR_lacks_10 (by decide) ?_
    refine zw_put (D := G.1) (ci := 2) (v := .int (nI 0)) (ty := .int) (C := RR) (T := TR) (N := 22) hx hb hz iR tR tR_ok nR hown hK hH hS hx0 rfl 0 (by decide) (hz _ zm_388) (fun _ h9 => h9) rfl (by decide +kernel) rfl rfl (Nat.le_of_ble_eq_true rfl) dR_lacks_14 (fun H1 L1 hH hz1 hS => ?_)
    have hsz : H1.size = sz := hz1.trans hsz
    obtain ⟨M1, hM1⟩ : ∃ Mq, Mq = zw_u M x (.inr (2, zoR 0 n mb z st.fl.length st.se st.lo st.go st.pa pt)) := ⟨_, rfl⟩
    have hH : zw_H G.1 zCl B M1 H1 := by rw [hM1]; exact hH
    have hmn : M1 (z + 4) = some (.inl (G.2.1 0, 8, .inl (fun a9 => nI ((st.lg a9).length)))) := by rw [hM1, zw_un _ _ (by omega)]; exact hmn
    have hx0 : M1 x = some (.inr (2, zoR 0 n mb z st.fl.length st.se st.lo st.go st.pa pt)) := by rw [hM1]; exact zw_us _ _ _
    refine lv_aload_n hx hb dR_lacks_17 rfl (lv_at hl 0 rfl) ?_
    refine va_get (D := G.1) (ci := 2) (v := .int (nI 0)) (C := RR) (T := TR) (N := 22) hx hb hz iR hown hK (hH.one hx0) 0 rfl rfl 0 (by decide) (hz _ zm_388) (fun _ h9 => h9) rfl dR_lacks_18 ?_
    refine zc_le0 (tgt := 28) hx hb dR_lacks_21 (by decide) (by decide) (fun b6 => ?_) (fun b6 => ?_)
    · refine lv_aload_n hx hb dR_lacks_28 rfl (lv_at hl 0 rfl) ?_
      have hkx : ∀ a : Nat, a ≠ x → M1 a = M a := fun a h1 => by rw [hM1, zw_un _ _ h1]
      have hRn : zRR G M1 x z n mb st 0 pt Y := hR.cnt (st' := st) rfl rfl rfl rfl hx0 (fun a e h1 h2 => (hkx a h1).trans h2)
      refine zr_V (As := []) (rest := []) (q := (RR, TR, 22)) ⟨hx, hb, hml, hown, hz⟩ (kR_total l G B M1 x z n mb st 0 pt Y hn hRn) (zt_V zm_557 zm_559 zs_26 zm_3 zm_560) rfl rfl rfl (show _ ∧ _ ∧ _ ∧ _ = some 0 from by decide +kernel) ⟨Nat.le_of_ble_eq_true rfl, Nat.le_of_ble_eq_true rfl⟩ zE_blind (zE_at hE hS) hH hK hx0 rfl rfl hl.1 rfl (Nat.le_of_ble_eq_true rfl) dR_lacks_29 ⟨Nat.le_of_ble_eq_true rfl, Nat.le_of_ble_eq_true rfl⟩ ?_
      refine lv_aload_n hx hb dR_lacks_32 rfl (lv_at hl 0 rfl) ?_
      refine va_get (D := G.1) (ci := 2) (v := .ref (z + 4)) (C := RR) (T := TR) (N := 22) hx hb hz iR hown hK (hH.one hx0) 0 rfl rfl 7 (by decide) (hz _ zm_395) (fun _ h9 => h9) rfl dR_lacks_33 ?_
      refine lv_iload_n hx hb dR_lacks_36 rfl (lv_at hl 1 rfl) ?_
      refine zw_iald hx hb hK hH 0 hmn rfl (j) rfl (by omega) (by decide) dR_lacks_37 ?_
      refine lv_isub hx hb dR_lacks_38 ?_
      refine zw_ti (pk_sub hle) ?_
      have hkx : ∀ a : Nat, a ≠ x → M1 a = M a := fun a h1 => by rw [hM1, zw_un _ _ h1]
      exact W.iret (v := (nI (zsum (fun a => (st.wt a).length) n - (st.lg j).length))) hx hb hr (fun t ht hW => ⟨⟨(nI (zsum (fun a => (st.wt a).length) n - (st.lg j).length)), (M1, sz), rfl, ⟨rfl, ⟨pt, Y, hR.cnt (st' := st) rfl rfl rfl rfl hx0 (fun a e h1 h2 => (hkx a h1).trans h2)⟩, fun q h1 h2 => hkx q h1, rfl⟩, by rw [ht]; exact hH, by rw [ht]; exact hsz⟩, hS.F ht⟩) hS.2.2 dR_lacks_39
    · exact absurd b6 (by decide)

set_option maxHeartbeats 4000000 in
set_option maxRecDepth 100000 in
theorem kR_lacks_out (l : Launch) (G : zG) (B : Nat) (M : zw_M) (sz : Nat) (x z n mb : Nat) (st : zSt) (th pt : Nat) (Y : zRX) (hn : n ≤ 8) (hR : zRR G M x z n mb st th pt Y) (a : Int32) (ha : a < 0 ∨ nI n ≤ a) : Met l yR_lacks (Cond.code yR_lacks bR_lacks 2 (some .int) :: zT) { frames := 1, cells := 0, slots := 0, locals := 24 } (zq G B M sz [.ref x, .int a]) (va_Qi (fun (r : Int32) (u : zw_M × Nat) => r = 0 ∧ zRO G x z n mb sz M st 1 u) (zr_o G.1 zCl B) (zw_A B)) (0) (0) (zw_A B) := by
  refine Met.ofW (cc := bR_lacks) (maxL := 2) (ret := (some .int)) (by decide) rfl ?_
  intro p e s m args below meth c s₁ B0 hml hv
  obtain ⟨rfl, hE, hH, hsz⟩ := hv
  have hx := B0.exec
  have hb := B0.bytes
  have hr := B0.returns
  have hlocks := B0.notSynchronized
  have hz : ∀ w ∈ zT, w.before _ s = true := fun w h => atoms_spec (ws := Cond.code yR_lacks bR_lacks 2 (some .int) :: zT) B0.pre w (List.mem_cons_of_mem _ h)
  have hown : s.vm.findClass RR = some m.cls := findClass_of_methodNamed B0.named
  have hK := hE.1
  have hl := lv_entry ([.ref x, .int a]) (n := 2) (Nat.le_of_ble_eq_true rfl)
  rw [lg_entry_eq]
  generalize (lg_sl ([.ref x, .int a]) ++ List.replicate (2 - (lg_sl ([.ref x, .int a])).length) Slot.unset).toArray = ls at hl ⊢
  have hl : lv_has ls 2 [(0, .ref x), (1, .int a)] := hl
  have hS : va_S (zw_A B) s.heap s.heap [] := va_S.rf
  have hin : meth.name = "lacks" := (name_of_methodNamed B0.named B0.method).1
  have hx0 := hR.obj
  have hxz := hR.xz
  refine lv_aload_n hx hb dR_lacks_0 rfl (lv_at hl 0 rfl) ?_
  refine lv_aload_n hx hb dR_lacks_1 rfl (lv_at hl 0 rfl) ?_
  refine lv_iload_n hx hb dR_lacks_2 rfl (lv_at hl 1 rfl) ?_
  refine zr_V (As := [.int a]) (rest := [.ref x]) (q := (RR, TR, 22)) ⟨hx, hb, hml, hown, hz⟩ (kR_isReplica_out l G B M x z n mb st th pt Y hn hR a ha) (zt_V zm_463 zm_465 zs_15 zm_3 zm_466) rfl rfl rfl (show _ ∧ _ ∧ _ ∧ _ = some 1 from by decide +kernel) ⟨Nat.le_of_ble_eq_true rfl, Nat.le_of_ble_eq_true rfl⟩ zE_blind (zE_at hE hS) hH hK hx0 rfl rfl hl.1 rfl (Nat.le_of_ble_eq_true rfl) dR_lacks_3 ⟨Nat.le_of_ble_eq_true rfl, Nat.le_of_ble_eq_true rfl⟩ ?_
  refine zc_eq0 (tgt := 13) hx hb dR_lacks_6 (by decide) (by decide) (fun b7 => ?_) (fun b7 => ?_)
  · refine lv_iconst (v := nI 1) hx hb dR_lacks_13 (by decide) ?_
    refine zw_put (D := G.1) (ci := 2) (v := .int (nI 1)) (ty := .int) (C := RR) (T := TR) (N := 22) hx hb hz iR tR tR_ok nR hown hK hH hS hx0 rfl 0 (by decide) (hz _ zm_388) (fun _ h9 => h9) rfl (by decide +kernel) rfl rfl (Nat.le_of_ble_eq_true rfl) dR_lacks_14 (fun H1 L1 hH hz1 hS => ?_)
    have hsz : H1.size = sz := hz1.trans hsz
    obtain ⟨M1, hM1⟩ : ∃ Mq, Mq = zw_u M x (.inr (2, zoR 1 n mb z st.fl.length st.se st.lo st.go st.pa pt)) := ⟨_, rfl⟩
    have hH : zw_H G.1 zCl B M1 H1 := by rw [hM1]; exact hH
    have hx0 : M1 x = some (.inr (2, zoR 1 n mb z st.fl.length st.se st.lo st.go st.pa pt)) := by rw [hM1]; exact zw_us _ _ _
    refine lv_aload_n hx hb dR_lacks_17 rfl (lv_at hl 0 rfl) ?_
    refine va_get (D := G.1) (ci := 2) (v := .int (nI 1)) (C := RR) (T := TR) (N := 22) hx hb hz iR hown hK (hH.one hx0) 0 rfl rfl 0 (by decide) (hz _ zm_388) (fun _ h9 => h9) rfl dR_lacks_18 ?_
    refine zc_le0 (tgt := 28) hx hb dR_lacks_21 (by decide) (by decide) (fun b8 => ?_) (fun b8 => ?_)
    · exact absurd b8 (by decide)
    · refine lv_iconst (v := nI 0) hx hb dR_lacks_24 (by decide) ?_
      refine lv_goto (tgt := 39) hx hb dR_lacks_25 (by decide) ?_
      have hkx : ∀ a : Nat, a ≠ x → M1 a = M a := fun a h1 => by rw [hM1, zw_un _ _ h1]
      exact W.iret (v := (nI 0)) hx hb hr (fun t ht hW => ⟨⟨(nI 0), (M1, sz), rfl, ⟨rfl, ⟨pt, Y, hR.cnt (st' := st) rfl rfl rfl rfl hx0 (fun a e h1 h2 => (hkx a h1).trans h2)⟩, fun q h1 h2 => hkx q h1, rfl⟩, by rw [ht]; exact hH, by rw [ht]; exact hsz⟩, hS.F ht⟩) hS.2.2 dR_lacks_39
  · exact absurd b7 (by decide)

set_option maxHeartbeats 4000000 in
set_option maxRecDepth 100000 in
theorem kR_log_in (l : Launch) (G : zG) (B : Nat) (M : zw_M) (sz : Nat) (x z n mb : Nat) (st : zSt) (th pt : Nat) (Y : zRX) (hn : n ≤ 8) (hR : zRR G M x z n mb st th pt Y) (j k : Nat) (hj : j < n) (hk : k < (st.lg j).length) (hl4 : (st.lg j).length ≤ 480) : Met l yR_log (Cond.code yR_log bR_log 3 (some .int) :: zT) { frames := 1, cells := 0, slots := 0, locals := 24 } (zq G B M sz [.ref x, .int (nI j), .int (nI k)]) (va_Qi (fun (r : Int32) (u : zw_M × Nat) => r = nI ((st.lg j).getD k 0) ∧ zRO G x z n mb sz M st 0 u) (zr_o G.1 zCl B) (zw_A B)) (0) (0) (zw_A B) := by
  refine Met.ofW (cc := bR_log) (maxL := 3) (ret := (some .int)) (by decide) rfl ?_
  intro p e s m args below meth c s₁ B0 hml hv
  obtain ⟨rfl, hE, hH, hsz⟩ := hv
  have hx := B0.exec
  have hb := B0.bytes
  have hr := B0.returns
  have hlocks := B0.notSynchronized
  have hz : ∀ w ∈ zT, w.before _ s = true := fun w h => atoms_spec (ws := Cond.code yR_log bR_log 3 (some .int) :: zT) B0.pre w (List.mem_cons_of_mem _ h)
  have hown : s.vm.findClass RR = some m.cls := findClass_of_methodNamed B0.named
  have hK := hE.1
  have hl := lv_entry ([.ref x, .int (nI j), .int (nI k)]) (n := 3) (Nat.le_of_ble_eq_true rfl)
  rw [lg_entry_eq]
  generalize (lg_sl ([.ref x, .int (nI j), .int (nI k)]) ++ List.replicate (3 - (lg_sl ([.ref x, .int (nI j), .int (nI k)])).length) Slot.unset).toArray = ls at hl ⊢
  have hl : lv_has ls 3 [(0, .ref x), (1, .int (nI j)), (2, .int (nI k))] := hl
  have hS : va_S (zw_A B) s.heap s.heap [] := va_S.rf
  have hin : meth.name = "log" := (name_of_methodNamed B0.named B0.method).1
  obtain ⟨hp1, hp2⟩ := zpl j k 480 (by omega)
  have hx0 := hR.obj
  have hhas := hR.has
  have hmn := hR.mn
  have hxz := hR.xz
  refine lv_aload_n hx hb dR_log_0 rfl (lv_at hl 0 rfl) ?_
  refine lv_iconst (v := nI 0) hx hb dR_log_1 (by decide) ?_
  refine zw_put (D := G.1) (ci := 2) (v := .int (nI 0)) (ty := .int) (C := RR) (T := TR) (N := 22) hx hb hz iR tR tR_ok nR hown hK hH hS hx0 rfl 0 (by decide) (hz _ zm_388) (fun _ h9 => h9) rfl (by decide +kernel) rfl rfl (Nat.le_of_ble_eq_true rfl) dR_log_2 (fun H1 L1 hH hz1 hS => ?_)
  have hsz : H1.size = sz := hz1.trans hsz
  obtain ⟨M1, hM1⟩ : ∃ Mq, Mq = zw_u M x (.inr (2, zoR 0 n mb z st.fl.length st.se st.lo st.go st.pa pt)) := ⟨_, rfl⟩
  have hH : zw_H G.1 zCl B M1 H1 := by rw [hM1]; exact hH
  have hhas : M1 (z + 3) = some (.inl (G.2.1 0, 3840, .inl (fun a9 => nI ((st.lg (a9 / 480)).getD (a9 % 480) 0)))) := by rw [hM1, zw_un _ _ (by omega)]; exact hhas
  have hmn : M1 (z + 4) = some (.inl (G.2.1 0, 8, .inl (fun a9 => nI ((st.lg a9).length)))) := by rw [hM1, zw_un _ _ (by omega)]; exact hmn
  have hx0 : M1 x = some (.inr (2, zoR 0 n mb z st.fl.length st.se st.lo st.go st.pa pt)) := by rw [hM1]; exact zw_us _ _ _
  refine lv_aload_n hx hb dR_log_5 rfl (lv_at hl 0 rfl) ?_
  refine lv_iload_n hx hb dR_log_6 rfl (lv_at hl 1 rfl) ?_
  have hkx : ∀ a : Nat, a ≠ x → M1 a = M a := fun a h1 => by rw [hM1, zw_un _ _ h1]
  have hRn : zRR G M1 x z n mb st 0 pt Y := hR.cnt (st' := st) rfl rfl rfl rfl hx0 (fun a e h1 h2 => (hkx a h1).trans h2)
  refine zr_V (As := [.int (nI j)]) (rest := []) (q := (RR, TR, 22)) ⟨hx, hb, hml, hown, hz⟩ (kR_isReplica_in l G B M1 x z n mb st 0 pt Y hn hRn j hj) (zt_V zm_463 zm_465 zs_15 zm_3 zm_466) rfl rfl rfl (show _ ∧ _ ∧ _ ∧ _ = some 1 from by decide +kernel) ⟨Nat.le_of_ble_eq_true rfl, Nat.le_of_ble_eq_true rfl⟩ zE_blind (zE_at hE hS) hH hK hx0 rfl rfl hl.1 rfl (Nat.le_of_ble_eq_true rfl) dR_log_7 ⟨Nat.le_of_ble_eq_true rfl, Nat.le_of_ble_eq_true rfl⟩ ?_
  refine zc_eq0 (tgt := 39) hx hb dR_log_10 (by decide) (by decide) (fun b9 => ?_) (fun b9 => ?_)
  · exact absurd b9 (by decide)
  · refine lv_iload_n hx hb dR_log_13 rfl (lv_at hl 2 rfl) ?_
    refine lv_if_lt (tgt := 39) hx hb dR_log_14 (by decide) (fun c2 => ?_) (fun c2 => ?_)
    · exact absurd c2 (nI_pos (by omega))
    · refine lv_iload_n hx hb dR_log_17 rfl (lv_at hl 2 rfl) ?_
      refine lv_aload_n hx hb dR_log_18 rfl (lv_at hl 0 rfl) ?_
      refine va_get (D := G.1) (ci := 2) (v := .ref (z + 4)) (C := RR) (T := TR) (N := 22) hx hb hz iR hown hK (hH.one hx0) 0 rfl rfl 7 (by decide) (hz _ zm_395) (fun _ h9 => h9) rfl dR_log_19 ?_
      refine lv_aload_n hx hb dR_log_22 rfl (lv_at hl 0 rfl) ?_
      refine lv_iload_n hx hb dR_log_23 rfl (lv_at hl 1 rfl) ?_
      refine zr_V (As := [.int (nI j)]) (rest := [.ref (z + 4), .int (nI k)]) (q := (RR, TR, 22)) ⟨hx, hb, hml, hown, hz⟩ (kR_isReplica_in l G B M1 x z n mb st 0 pt Y hn hRn j hj) (zt_V zm_463 zm_465 zs_15 zm_3 zm_466) rfl rfl rfl (show _ ∧ _ ∧ _ ∧ _ = some 1 from by decide +kernel) ⟨Nat.le_of_ble_eq_true rfl, Nat.le_of_ble_eq_true rfl⟩ zE_blind (zE_at hE hS) hH hK hx0 rfl rfl hl.1 rfl (Nat.le_of_ble_eq_true rfl) dR_log_24 ⟨Nat.le_of_ble_eq_true rfl, Nat.le_of_ble_eq_true rfl⟩ ?_
      refine zc_eq0 (tgt := 34) hx hb dR_log_27 (by decide) (by decide) (fun b10 => ?_) (fun b10 => ?_)
      · exact absurd b10 (by decide)
      · refine lv_iload_n hx hb dR_log_30 rfl (lv_at hl 1 rfl) ?_
        refine lv_goto (tgt := 35) hx hb dR_log_31 (by decide) ?_
        refine zw_iald hx hb hK hH 0 hmn rfl (j) rfl (by omega) (by decide) dR_log_35 ?_
        refine zc_lt (tgt := 43) hx hb dR_log_36 (by decide) (by omega) (by omega) (fun c3 => ?_) (fun c3 => ?_)
        · refine lv_aload_n hx hb dR_log_43 rfl (lv_at hl 0 rfl) ?_
          refine va_get (D := G.1) (ci := 2) (v := .ref (z + 3)) (C := RR) (T := TR) (N := 22) hx hb hz iR hown hK (hH.one hx0) 0 rfl rfl 6 (by decide) (hz _ zm_394) (fun _ h9 => h9) rfl dR_log_44 ?_
          refine lv_sipush (v := nI 480) hx hb dR_log_47 (by decide) ?_
          refine lv_iload_n hx hb dR_log_50 rfl (lv_at hl 1 rfl) ?_
          refine lv_imul hx hb dR_log_51 ?_
          refine zw_ti (pk_mul _ _) ?_
          refine lv_iload_n hx hb dR_log_52 rfl (lv_at hl 2 rfl) ?_
          refine lv_iadd hx hb dR_log_53 ?_
          refine zw_ti (nI_add _ _) ?_
          refine zw_iald hx hb hK hH 0 hhas rfl (480 * j + k) rfl (by omega) (by decide) dR_log_54 ?_
          refine zw_ti (by show nI ((st.lg ((480 * j + k) / 480)).getD ((480 * j + k) % 480) 0) = _; rw [hp1, hp2]) ?_
          have hkx : ∀ a : Nat, a ≠ x → M1 a = M a := fun a h1 => by rw [hM1, zw_un _ _ h1]
          exact W.iret (v := (nI ((st.lg j).getD k 0))) hx hb hr (fun t ht hW => ⟨⟨(nI ((st.lg j).getD k 0)), (M1, sz), rfl, ⟨rfl, ⟨pt, Y, hR.cnt (st' := st) rfl rfl rfl rfl hx0 (fun a e h1 h2 => (hkx a h1).trans h2)⟩, fun q h1 h2 => hkx q h1, rfl⟩, by rw [ht]; exact hH, by rw [ht]; exact hsz⟩, hS.F ht⟩) hS.2.2 dR_log_55
        · exact absurd c3 (by omega)

set_option maxHeartbeats 4000000 in
set_option maxRecDepth 100000 in
theorem kR_log_out2 (l : Launch) (G : zG) (B : Nat) (M : zw_M) (sz : Nat) (x z n mb : Nat) (st : zSt) (th pt : Nat) (Y : zRX) (hn : n ≤ 8) (hR : zRR G M x z n mb st th pt Y) (j : Nat) (k : Int32) (hj : j < n) (hk : k < 0 ∨ ¬ k < nI (st.lg j).length) : Met l yR_log (Cond.code yR_log bR_log 3 (some .int) :: zT) { frames := 1, cells := 0, slots := 0, locals := 24 } (zq G B M sz [.ref x, .int (nI j), .int k]) (va_Qi (fun (r : Int32) (u : zw_M × Nat) => r = -1 ∧ zRO G x z n mb sz M st 0 u) (zr_o G.1 zCl B) (zw_A B)) (0) (0) (zw_A B) := by
  refine Met.ofW (cc := bR_log) (maxL := 3) (ret := (some .int)) (by decide) rfl ?_
  intro p e s m args below meth c s₁ B0 hml hv
  obtain ⟨rfl, hE, hH, hsz⟩ := hv
  have hx := B0.exec
  have hb := B0.bytes
  have hr := B0.returns
  have hlocks := B0.notSynchronized
  have hz : ∀ w ∈ zT, w.before _ s = true := fun w h => atoms_spec (ws := Cond.code yR_log bR_log 3 (some .int) :: zT) B0.pre w (List.mem_cons_of_mem _ h)
  have hown : s.vm.findClass RR = some m.cls := findClass_of_methodNamed B0.named
  have hK := hE.1
  have hl := lv_entry ([.ref x, .int (nI j), .int k]) (n := 3) (Nat.le_of_ble_eq_true rfl)
  rw [lg_entry_eq]
  generalize (lg_sl ([.ref x, .int (nI j), .int k]) ++ List.replicate (3 - (lg_sl ([.ref x, .int (nI j), .int k])).length) Slot.unset).toArray = ls at hl ⊢
  have hl : lv_has ls 3 [(0, .ref x), (1, .int (nI j)), (2, .int k)] := hl
  have hS : va_S (zw_A B) s.heap s.heap [] := va_S.rf
  have hin : meth.name = "log" := (name_of_methodNamed B0.named B0.method).1
  have hx0 := hR.obj
  have hmn := hR.mn
  have hxz := hR.xz
  refine lv_aload_n hx hb dR_log_0 rfl (lv_at hl 0 rfl) ?_
  refine lv_iconst (v := nI 0) hx hb dR_log_1 (by decide) ?_
  refine zw_put (D := G.1) (ci := 2) (v := .int (nI 0)) (ty := .int) (C := RR) (T := TR) (N := 22) hx hb hz iR tR tR_ok nR hown hK hH hS hx0 rfl 0 (by decide) (hz _ zm_388) (fun _ h9 => h9) rfl (by decide +kernel) rfl rfl (Nat.le_of_ble_eq_true rfl) dR_log_2 (fun H1 L1 hH hz1 hS => ?_)
  have hsz : H1.size = sz := hz1.trans hsz
  obtain ⟨M1, hM1⟩ : ∃ Mq, Mq = zw_u M x (.inr (2, zoR 0 n mb z st.fl.length st.se st.lo st.go st.pa pt)) := ⟨_, rfl⟩
  have hH : zw_H G.1 zCl B M1 H1 := by rw [hM1]; exact hH
  have hmn : M1 (z + 4) = some (.inl (G.2.1 0, 8, .inl (fun a9 => nI ((st.lg a9).length)))) := by rw [hM1, zw_un _ _ (by omega)]; exact hmn
  have hx0 : M1 x = some (.inr (2, zoR 0 n mb z st.fl.length st.se st.lo st.go st.pa pt)) := by rw [hM1]; exact zw_us _ _ _
  refine lv_aload_n hx hb dR_log_5 rfl (lv_at hl 0 rfl) ?_
  refine lv_iload_n hx hb dR_log_6 rfl (lv_at hl 1 rfl) ?_
  have hkx : ∀ a : Nat, a ≠ x → M1 a = M a := fun a h1 => by rw [hM1, zw_un _ _ h1]
  have hRn : zRR G M1 x z n mb st 0 pt Y := hR.cnt (st' := st) rfl rfl rfl rfl hx0 (fun a e h1 h2 => (hkx a h1).trans h2)
  refine zr_V (As := [.int (nI j)]) (rest := []) (q := (RR, TR, 22)) ⟨hx, hb, hml, hown, hz⟩ (kR_isReplica_in l G B M1 x z n mb st 0 pt Y hn hRn j hj) (zt_V zm_463 zm_465 zs_15 zm_3 zm_466) rfl rfl rfl (show _ ∧ _ ∧ _ ∧ _ = some 1 from by decide +kernel) ⟨Nat.le_of_ble_eq_true rfl, Nat.le_of_ble_eq_true rfl⟩ zE_blind (zE_at hE hS) hH hK hx0 rfl rfl hl.1 rfl (Nat.le_of_ble_eq_true rfl) dR_log_7 ⟨Nat.le_of_ble_eq_true rfl, Nat.le_of_ble_eq_true rfl⟩ ?_
  refine zc_eq0 (tgt := 39) hx hb dR_log_10 (by decide) (by decide) (fun b11 => ?_) (fun b11 => ?_)
  · exact absurd b11 (by decide)
  · refine lv_iload_n hx hb dR_log_13 rfl (lv_at hl 2 rfl) ?_
    refine lv_if_lt (tgt := 39) hx hb dR_log_14 (by decide) (fun c2 => ?_) (fun c2 => ?_)
    · refine lv_iconst (v := (-1)) hx hb dR_log_39 (by decide) ?_
      refine lv_goto (tgt := 55) hx hb dR_log_40 (by decide) ?_
      have hkx : ∀ a : Nat, a ≠ x → M1 a = M a := fun a h1 => by rw [hM1, zw_un _ _ h1]
      exact W.iret (v := (-1)) hx hb hr (fun t ht hW => ⟨⟨(-1), (M1, sz), rfl, ⟨rfl, ⟨pt, Y, hR.cnt (st' := st) rfl rfl rfl rfl hx0 (fun a e h1 h2 => (hkx a h1).trans h2)⟩, fun q h1 h2 => hkx q h1, rfl⟩, by rw [ht]; exact hH, by rw [ht]; exact hsz⟩, hS.F ht⟩) hS.2.2 dR_log_55
    · refine lv_iload_n hx hb dR_log_17 rfl (lv_at hl 2 rfl) ?_
      refine lv_aload_n hx hb dR_log_18 rfl (lv_at hl 0 rfl) ?_
      refine va_get (D := G.1) (ci := 2) (v := .ref (z + 4)) (C := RR) (T := TR) (N := 22) hx hb hz iR hown hK (hH.one hx0) 0 rfl rfl 7 (by decide) (hz _ zm_395) (fun _ h9 => h9) rfl dR_log_19 ?_
      refine lv_aload_n hx hb dR_log_22 rfl (lv_at hl 0 rfl) ?_
      refine lv_iload_n hx hb dR_log_23 rfl (lv_at hl 1 rfl) ?_
      refine zr_V (As := [.int (nI j)]) (rest := [.ref (z + 4), .int k]) (q := (RR, TR, 22)) ⟨hx, hb, hml, hown, hz⟩ (kR_isReplica_in l G B M1 x z n mb st 0 pt Y hn hRn j hj) (zt_V zm_463 zm_465 zs_15 zm_3 zm_466) rfl rfl rfl (show _ ∧ _ ∧ _ ∧ _ = some 1 from by decide +kernel) ⟨Nat.le_of_ble_eq_true rfl, Nat.le_of_ble_eq_true rfl⟩ zE_blind (zE_at hE hS) hH hK hx0 rfl rfl hl.1 rfl (Nat.le_of_ble_eq_true rfl) dR_log_24 ⟨Nat.le_of_ble_eq_true rfl, Nat.le_of_ble_eq_true rfl⟩ ?_
      refine zc_eq0 (tgt := 34) hx hb dR_log_27 (by decide) (by decide) (fun b12 => ?_) (fun b12 => ?_)
      · exact absurd b12 (by decide)
      · refine lv_iload_n hx hb dR_log_30 rfl (lv_at hl 1 rfl) ?_
        refine lv_goto (tgt := 35) hx hb dR_log_31 (by decide) ?_
        refine zw_iald hx hb hK hH 0 hmn rfl (j) rfl (by omega) (by decide) dR_log_35 ?_
        refine lv_icmp_lt (tgt := 43) hx hb dR_log_36 (by decide) (fun c3 => ?_) (fun c3 => ?_)
        · exact absurd c3 (hk.resolve_left c2)
        · refine lv_iconst (v := (-1)) hx hb dR_log_39 (by decide) ?_
          refine lv_goto (tgt := 55) hx hb dR_log_40 (by decide) ?_
          have hkx : ∀ a : Nat, a ≠ x → M1 a = M a := fun a h1 => by rw [hM1, zw_un _ _ h1]
          exact W.iret (v := (-1)) hx hb hr (fun t ht hW => ⟨⟨(-1), (M1, sz), rfl, ⟨rfl, ⟨pt, Y, hR.cnt (st' := st) rfl rfl rfl rfl hx0 (fun a e h1 h2 => (hkx a h1).trans h2)⟩, fun q h1 h2 => hkx q h1, rfl⟩, by rw [ht]; exact hH, by rw [ht]; exact hsz⟩, hS.F ht⟩) hS.2.2 dR_log_55

set_option maxHeartbeats 4000000 in
set_option maxRecDepth 100000 in
theorem kR_log_out1 (l : Launch) (G : zG) (B : Nat) (M : zw_M) (sz : Nat) (x z n mb : Nat) (st : zSt) (th pt : Nat) (Y : zRX) (hn : n ≤ 8) (hR : zRR G M x z n mb st th pt Y) (a : Int32) (ha : a < 0 ∨ nI n ≤ a) (k : Int32) : Met l yR_log (Cond.code yR_log bR_log 3 (some .int) :: zT) { frames := 1, cells := 0, slots := 0, locals := 24 } (zq G B M sz [.ref x, .int a, .int k]) (va_Qi (fun (r : Int32) (u : zw_M × Nat) => r = -1 ∧ zRO G x z n mb sz M st 0 u) (zr_o G.1 zCl B) (zw_A B)) (0) (0) (zw_A B) := by
  refine Met.ofW (cc := bR_log) (maxL := 3) (ret := (some .int)) (by decide) rfl ?_
  intro p e s m args below meth c s₁ B0 hml hv
  obtain ⟨rfl, hE, hH, hsz⟩ := hv
  have hx := B0.exec
  have hb := B0.bytes
  have hr := B0.returns
  have hlocks := B0.notSynchronized
  have hz : ∀ w ∈ zT, w.before _ s = true := fun w h => atoms_spec (ws := Cond.code yR_log bR_log 3 (some .int) :: zT) B0.pre w (List.mem_cons_of_mem _ h)
  have hown : s.vm.findClass RR = some m.cls := findClass_of_methodNamed B0.named
  have hK := hE.1
  have hl := lv_entry ([.ref x, .int a, .int k]) (n := 3) (Nat.le_of_ble_eq_true rfl)
  rw [lg_entry_eq]
  generalize (lg_sl ([.ref x, .int a, .int k]) ++ List.replicate (3 - (lg_sl ([.ref x, .int a, .int k])).length) Slot.unset).toArray = ls at hl ⊢
  have hl : lv_has ls 3 [(0, .ref x), (1, .int a), (2, .int k)] := hl
  have hS : va_S (zw_A B) s.heap s.heap [] := va_S.rf
  have hin : meth.name = "log" := (name_of_methodNamed B0.named B0.method).1
  have hx0 := hR.obj
  have hxz := hR.xz
  refine lv_aload_n hx hb dR_log_0 rfl (lv_at hl 0 rfl) ?_
  refine lv_iconst (v := nI 0) hx hb dR_log_1 (by decide) ?_
  refine zw_put (D := G.1) (ci := 2) (v := .int (nI 0)) (ty := .int) (C := RR) (T := TR) (N := 22) hx hb hz iR tR tR_ok nR hown hK hH hS hx0 rfl 0 (by decide) (hz _ zm_388) (fun _ h9 => h9) rfl (by decide +kernel) rfl rfl (Nat.le_of_ble_eq_true rfl) dR_log_2 (fun H1 L1 hH hz1 hS => ?_)
  have hsz : H1.size = sz := hz1.trans hsz
  obtain ⟨M1, hM1⟩ : ∃ Mq, Mq = zw_u M x (.inr (2, zoR 0 n mb z st.fl.length st.se st.lo st.go st.pa pt)) := ⟨_, rfl⟩
  have hH : zw_H G.1 zCl B M1 H1 := by rw [hM1]; exact hH
  have hx0 : M1 x = some (.inr (2, zoR 0 n mb z st.fl.length st.se st.lo st.go st.pa pt)) := by rw [hM1]; exact zw_us _ _ _
  refine lv_aload_n hx hb dR_log_5 rfl (lv_at hl 0 rfl) ?_
  refine lv_iload_n hx hb dR_log_6 rfl (lv_at hl 1 rfl) ?_
  have hkx : ∀ a : Nat, a ≠ x → M1 a = M a := fun a h1 => by rw [hM1, zw_un _ _ h1]
  have hRn : zRR G M1 x z n mb st 0 pt Y := hR.cnt (st' := st) rfl rfl rfl rfl hx0 (fun a e h1 h2 => (hkx a h1).trans h2)
  refine zr_V (As := [.int a]) (rest := []) (q := (RR, TR, 22)) ⟨hx, hb, hml, hown, hz⟩ (kR_isReplica_out l G B M1 x z n mb st 0 pt Y hn hRn a ha) (zt_V zm_463 zm_465 zs_15 zm_3 zm_466) rfl rfl rfl (show _ ∧ _ ∧ _ ∧ _ = some 1 from by decide +kernel) ⟨Nat.le_of_ble_eq_true rfl, Nat.le_of_ble_eq_true rfl⟩ zE_blind (zE_at hE hS) hH hK hx0 rfl rfl hl.1 rfl (Nat.le_of_ble_eq_true rfl) dR_log_7 ⟨Nat.le_of_ble_eq_true rfl, Nat.le_of_ble_eq_true rfl⟩ ?_
  refine zc_eq0 (tgt := 39) hx hb dR_log_10 (by decide) (by decide) (fun b13 => ?_) (fun b13 => ?_)
  · refine lv_iconst (v := (-1)) hx hb dR_log_39 (by decide) ?_
    refine lv_goto (tgt := 55) hx hb dR_log_40 (by decide) ?_
    have hkx : ∀ a : Nat, a ≠ x → M1 a = M a := fun a h1 => by rw [hM1, zw_un _ _ h1]
    exact W.iret (v := (-1)) hx hb hr (fun t ht hW => ⟨⟨(-1), (M1, sz), rfl, ⟨rfl, ⟨pt, Y, hR.cnt (st' := st) rfl rfl rfl rfl hx0 (fun a e h1 h2 => (hkx a h1).trans h2)⟩, fun q h1 h2 => hkx q h1, rfl⟩, by rw [ht]; exact hH, by rw [ht]; exact hsz⟩, hS.F ht⟩) hS.2.2 dR_log_55
  · exact absurd b13 (by decide)

set_option maxHeartbeats 4000000 in
set_option maxRecDepth 100000 in
theorem kR_weight_in (l : Launch) (G : zG) (B : Nat) (M : zw_M) (sz : Nat) (x z n mb : Nat) (st : zSt) (th pt : Nat) (Y : zRX) (hn : n ≤ 8) (hR : zRR G M x z n mb st th pt Y) (j sq : Nat) (hj : j < n) (hq1 : 1 ≤ sq) (hq2 : sq ≤ (st.wt j).length) (h60 : (st.wt j).length ≤ 60) : Met l yR_weight (Cond.code yR_weight bR_weight 3 (some .int) :: zT) { frames := 1, cells := 0, slots := 0, locals := 24 } (zq G B M sz [.ref x, .int (nI j), .int (nI sq)]) (va_Qi (fun (r : Int32) (u : zw_M × Nat) => r = nI ((st.wt j).getD (sq - 1) 0) ∧ zRO G x z n mb sz M st 0 u) (zr_o G.1 zCl B) (zw_A B)) (0) (0) (zw_A B) := by
  refine Met.ofW (cc := bR_weight) (maxL := 3) (ret := (some .int)) (by decide) rfl ?_
  intro p e s m args below meth c s₁ B0 hml hv
  obtain ⟨rfl, hE, hH, hsz⟩ := hv
  have hx := B0.exec
  have hb := B0.bytes
  have hr := B0.returns
  have hlocks := B0.notSynchronized
  have hz : ∀ w ∈ zT, w.before _ s = true := fun w h => atoms_spec (ws := Cond.code yR_weight bR_weight 3 (some .int) :: zT) B0.pre w (List.mem_cons_of_mem _ h)
  have hown : s.vm.findClass RR = some m.cls := findClass_of_methodNamed B0.named
  have hK := hE.1
  have hl := lv_entry ([.ref x, .int (nI j), .int (nI sq)]) (n := 3) (Nat.le_of_ble_eq_true rfl)
  rw [lg_entry_eq]
  generalize (lg_sl ([.ref x, .int (nI j), .int (nI sq)]) ++ List.replicate (3 - (lg_sl ([.ref x, .int (nI j), .int (nI sq)])).length) Slot.unset).toArray = ls at hl ⊢
  have hl : lv_has ls 3 [(0, .ref x), (1, .int (nI j)), (2, .int (nI sq))] := hl
  have hS : va_S (zw_A B) s.heap s.heap [] := va_S.rf
  have hin : meth.name = "weight" := (name_of_methodNamed B0.named B0.method).1
  obtain ⟨hp1, hp2⟩ := zpl j (sq - 1) 61 (by omega)
  have hx0 := hR.obj
  have hmd := hR.md
  have hwt := hR.wt
  have hxz := hR.xz
  refine lv_aload_n hx hb dR_weight_0 rfl (lv_at hl 0 rfl) ?_
  refine lv_iconst (v := nI 0) hx hb dR_weight_1 (by decide) ?_
  refine zw_put (D := G.1) (ci := 2) (v := .int (nI 0)) (ty := .int) (C := RR) (T := TR) (N := 22) hx hb hz iR tR tR_ok nR hown hK hH hS hx0 rfl 0 (by decide) (hz _ zm_388) (fun _ h9 => h9) rfl (by decide +kernel) rfl rfl (Nat.le_of_ble_eq_true rfl) dR_weight_2 (fun H1 L1 hH hz1 hS => ?_)
  have hsz : H1.size = sz := hz1.trans hsz
  obtain ⟨M1, hM1⟩ : ∃ Mq, Mq = zw_u M x (.inr (2, zoR 0 n mb z st.fl.length st.se st.lo st.go st.pa pt)) := ⟨_, rfl⟩
  have hH : zw_H G.1 zCl B M1 H1 := by rw [hM1]; exact hH
  have hmd : M1 (z + 1) = some (.inl (G.2.1 0, 8, .inl (fun a9 => nI ((st.wt a9).length)))) := by rw [hM1, zw_un _ _ (by omega)]; exact hmd
  have hwt : M1 (z + 2) = some (.inl (G.2.1 0, 488, .inl (fun a9 => nI ((st.wt (a9 / 61)).getD (a9 % 61) 0)))) := by rw [hM1, zw_un _ _ (by omega)]; exact hwt
  have hx0 : M1 x = some (.inr (2, zoR 0 n mb z st.fl.length st.se st.lo st.go st.pa pt)) := by rw [hM1]; exact zw_us _ _ _
  refine lv_aload_n hx hb dR_weight_5 rfl (lv_at hl 0 rfl) ?_
  refine lv_iload_n hx hb dR_weight_6 rfl (lv_at hl 1 rfl) ?_
  have hkx : ∀ a : Nat, a ≠ x → M1 a = M a := fun a h1 => by rw [hM1, zw_un _ _ h1]
  have hRn : zRR G M1 x z n mb st 0 pt Y := hR.cnt (st' := st) rfl rfl rfl rfl hx0 (fun a e h1 h2 => (hkx a h1).trans h2)
  refine zr_V (As := [.int (nI j)]) (rest := []) (q := (RR, TR, 22)) ⟨hx, hb, hml, hown, hz⟩ (kR_isReplica_in l G B M1 x z n mb st 0 pt Y hn hRn j hj) (zt_V zm_463 zm_465 zs_15 zm_3 zm_466) rfl rfl rfl (show _ ∧ _ ∧ _ ∧ _ = some 1 from by decide +kernel) ⟨Nat.le_of_ble_eq_true rfl, Nat.le_of_ble_eq_true rfl⟩ zE_blind (zE_at hE hS) hH hK hx0 rfl rfl hl.1 rfl (Nat.le_of_ble_eq_true rfl) dR_weight_7 ⟨Nat.le_of_ble_eq_true rfl, Nat.le_of_ble_eq_true rfl⟩ ?_
  refine zc_eq0 (tgt := 40) hx hb dR_weight_10 (by decide) (by decide) (fun b14 => ?_) (fun b14 => ?_)
  · exact absurd b14 (by decide)
  · refine lv_iload_n hx hb dR_weight_13 rfl (lv_at hl 2 rfl) ?_
    refine lv_iconst (v := nI 1) hx hb dR_weight_14 (by decide) ?_
    refine zc_lt (tgt := 40) hx hb dR_weight_15 (by decide) (by omega) (by decide) (fun c2 => ?_) (fun c2 => ?_)
    · exact absurd c2 (by omega)
    · refine lv_iload_n hx hb dR_weight_18 rfl (lv_at hl 2 rfl) ?_
      refine lv_aload_n hx hb dR_weight_19 rfl (lv_at hl 0 rfl) ?_
      refine va_get (D := G.1) (ci := 2) (v := .ref (z + 1)) (C := RR) (T := TR) (N := 22) hx hb hz iR hown hK (hH.one hx0) 0 rfl rfl 4 (by decide) (hz _ zm_392) (fun _ h9 => h9) rfl dR_weight_20 ?_
      refine lv_aload_n hx hb dR_weight_23 rfl (lv_at hl 0 rfl) ?_
      refine lv_iload_n hx hb dR_weight_24 rfl (lv_at hl 1 rfl) ?_
      refine zr_V (As := [.int (nI j)]) (rest := [.ref (z + 1), .int (nI sq)]) (q := (RR, TR, 22)) ⟨hx, hb, hml, hown, hz⟩ (kR_isReplica_in l G B M1 x z n mb st 0 pt Y hn hRn j hj) (zt_V zm_463 zm_465 zs_15 zm_3 zm_466) rfl rfl rfl (show _ ∧ _ ∧ _ ∧ _ = some 1 from by decide +kernel) ⟨Nat.le_of_ble_eq_true rfl, Nat.le_of_ble_eq_true rfl⟩ zE_blind (zE_at hE hS) hH hK hx0 rfl rfl hl.1 rfl (Nat.le_of_ble_eq_true rfl) dR_weight_25 ⟨Nat.le_of_ble_eq_true rfl, Nat.le_of_ble_eq_true rfl⟩ ?_
      refine zc_eq0 (tgt := 35) hx hb dR_weight_28 (by decide) (by decide) (fun b15 => ?_) (fun b15 => ?_)
      · exact absurd b15 (by decide)
      · refine lv_iload_n hx hb dR_weight_31 rfl (lv_at hl 1 rfl) ?_
        refine lv_goto (tgt := 36) hx hb dR_weight_32 (by decide) ?_
        refine zw_iald hx hb hK hH 0 hmd rfl (j) rfl (by omega) (by decide) dR_weight_36 ?_
        refine zc_le (tgt := 44) hx hb dR_weight_37 (by decide) (by omega) (by omega) (fun c3 => ?_) (fun c3 => ?_)
        · refine lv_aload_n hx hb dR_weight_44 rfl (lv_at hl 0 rfl) ?_
          refine va_get (D := G.1) (ci := 2) (v := .ref (z + 2)) (C := RR) (T := TR) (N := 22) hx hb hz iR hown hK (hH.one hx0) 0 rfl rfl 5 (by decide) (hz _ zm_393) (fun _ h9 => h9) rfl dR_weight_45 ?_
          refine lv_bipush (v := nI 61) hx hb dR_weight_48 (by decide) ?_
          refine lv_iload_n hx hb dR_weight_50 rfl (lv_at hl 1 rfl) ?_
          refine lv_imul hx hb dR_weight_51 ?_
          refine zw_ti (pk_mul _ _) ?_
          refine lv_iload_n hx hb dR_weight_52 rfl (lv_at hl 2 rfl) ?_
          refine lv_iadd hx hb dR_weight_53 ?_
          refine zw_ti (nI_add _ _) ?_
          refine lv_iconst (v := nI 1) hx hb dR_weight_54 (by decide) ?_
          refine lv_isub hx hb dR_weight_55 ?_
          refine zw_ti (pk_sub (by omega)) ?_
          refine zw_ti (congrArg nI (show 61 * j + sq - 1 = 61 * j + (sq - 1) by omega)) ?_
          refine zw_iald hx hb hK hH 0 hwt rfl (61 * j + (sq - 1)) rfl (by omega) (by decide) dR_weight_56 ?_
          refine zw_ti (by show nI ((st.wt ((61 * j + (sq - 1)) / 61)).getD ((61 * j + (sq - 1)) % 61) 0) = _; rw [hp1, hp2]) ?_
          have hkx : ∀ a : Nat, a ≠ x → M1 a = M a := fun a h1 => by rw [hM1, zw_un _ _ h1]
          exact W.iret (v := (nI ((st.wt j).getD (sq - 1) 0))) hx hb hr (fun t ht hW => ⟨⟨(nI ((st.wt j).getD (sq - 1) 0)), (M1, sz), rfl, ⟨rfl, ⟨pt, Y, hR.cnt (st' := st) rfl rfl rfl rfl hx0 (fun a e h1 h2 => (hkx a h1).trans h2)⟩, fun q h1 h2 => hkx q h1, rfl⟩, by rw [ht]; exact hH, by rw [ht]; exact hsz⟩, hS.F ht⟩) hS.2.2 dR_weight_57
        · exact absurd c3 (by omega)

set_option maxHeartbeats 4000000 in
set_option maxRecDepth 100000 in
theorem kR_weight_out2 (l : Launch) (G : zG) (B : Nat) (M : zw_M) (sz : Nat) (x z n mb : Nat) (st : zSt) (th pt : Nat) (Y : zRX) (hn : n ≤ 8) (hR : zRR G M x z n mb st th pt Y) (j : Nat) (sq : Int32) (hj : j < n) (hs : sq < nI 1 ∨ ¬ sq ≤ nI (st.wt j).length) : Met l yR_weight (Cond.code yR_weight bR_weight 3 (some .int) :: zT) { frames := 1, cells := 0, slots := 0, locals := 24 } (zq G B M sz [.ref x, .int (nI j), .int sq]) (va_Qi (fun (r : Int32) (u : zw_M × Nat) => r = -1 ∧ zRO G x z n mb sz M st 0 u) (zr_o G.1 zCl B) (zw_A B)) (0) (0) (zw_A B) := by
  refine Met.ofW (cc := bR_weight) (maxL := 3) (ret := (some .int)) (by decide) rfl ?_
  intro p e s m args below meth c s₁ B0 hml hv
  obtain ⟨rfl, hE, hH, hsz⟩ := hv
  have hx := B0.exec
  have hb := B0.bytes
  have hr := B0.returns
  have hlocks := B0.notSynchronized
  have hz : ∀ w ∈ zT, w.before _ s = true := fun w h => atoms_spec (ws := Cond.code yR_weight bR_weight 3 (some .int) :: zT) B0.pre w (List.mem_cons_of_mem _ h)
  have hown : s.vm.findClass RR = some m.cls := findClass_of_methodNamed B0.named
  have hK := hE.1
  have hl := lv_entry ([.ref x, .int (nI j), .int sq]) (n := 3) (Nat.le_of_ble_eq_true rfl)
  rw [lg_entry_eq]
  generalize (lg_sl ([.ref x, .int (nI j), .int sq]) ++ List.replicate (3 - (lg_sl ([.ref x, .int (nI j), .int sq])).length) Slot.unset).toArray = ls at hl ⊢
  have hl : lv_has ls 3 [(0, .ref x), (1, .int (nI j)), (2, .int sq)] := hl
  have hS : va_S (zw_A B) s.heap s.heap [] := va_S.rf
  have hin : meth.name = "weight" := (name_of_methodNamed B0.named B0.method).1
  have hx0 := hR.obj
  have hmd := hR.md
  have hxz := hR.xz
  refine lv_aload_n hx hb dR_weight_0 rfl (lv_at hl 0 rfl) ?_
  refine lv_iconst (v := nI 0) hx hb dR_weight_1 (by decide) ?_
  refine zw_put (D := G.1) (ci := 2) (v := .int (nI 0)) (ty := .int) (C := RR) (T := TR) (N := 22) hx hb hz iR tR tR_ok nR hown hK hH hS hx0 rfl 0 (by decide) (hz _ zm_388) (fun _ h9 => h9) rfl (by decide +kernel) rfl rfl (Nat.le_of_ble_eq_true rfl) dR_weight_2 (fun H1 L1 hH hz1 hS => ?_)
  have hsz : H1.size = sz := hz1.trans hsz
  obtain ⟨M1, hM1⟩ : ∃ Mq, Mq = zw_u M x (.inr (2, zoR 0 n mb z st.fl.length st.se st.lo st.go st.pa pt)) := ⟨_, rfl⟩
  have hH : zw_H G.1 zCl B M1 H1 := by rw [hM1]; exact hH
  have hmd : M1 (z + 1) = some (.inl (G.2.1 0, 8, .inl (fun a9 => nI ((st.wt a9).length)))) := by rw [hM1, zw_un _ _ (by omega)]; exact hmd
  have hx0 : M1 x = some (.inr (2, zoR 0 n mb z st.fl.length st.se st.lo st.go st.pa pt)) := by rw [hM1]; exact zw_us _ _ _
  refine lv_aload_n hx hb dR_weight_5 rfl (lv_at hl 0 rfl) ?_
  refine lv_iload_n hx hb dR_weight_6 rfl (lv_at hl 1 rfl) ?_
  have hkx : ∀ a : Nat, a ≠ x → M1 a = M a := fun a h1 => by rw [hM1, zw_un _ _ h1]
  have hRn : zRR G M1 x z n mb st 0 pt Y := hR.cnt (st' := st) rfl rfl rfl rfl hx0 (fun a e h1 h2 => (hkx a h1).trans h2)
  refine zr_V (As := [.int (nI j)]) (rest := []) (q := (RR, TR, 22)) ⟨hx, hb, hml, hown, hz⟩ (kR_isReplica_in l G B M1 x z n mb st 0 pt Y hn hRn j hj) (zt_V zm_463 zm_465 zs_15 zm_3 zm_466) rfl rfl rfl (show _ ∧ _ ∧ _ ∧ _ = some 1 from by decide +kernel) ⟨Nat.le_of_ble_eq_true rfl, Nat.le_of_ble_eq_true rfl⟩ zE_blind (zE_at hE hS) hH hK hx0 rfl rfl hl.1 rfl (Nat.le_of_ble_eq_true rfl) dR_weight_7 ⟨Nat.le_of_ble_eq_true rfl, Nat.le_of_ble_eq_true rfl⟩ ?_
  refine zc_eq0 (tgt := 40) hx hb dR_weight_10 (by decide) (by decide) (fun b16 => ?_) (fun b16 => ?_)
  · exact absurd b16 (by decide)
  · refine lv_iload_n hx hb dR_weight_13 rfl (lv_at hl 2 rfl) ?_
    refine lv_iconst (v := nI 1) hx hb dR_weight_14 (by decide) ?_
    refine lv_icmp_lt (tgt := 40) hx hb dR_weight_15 (by decide) (fun c2 => ?_) (fun c2 => ?_)
    · refine lv_iconst (v := (-1)) hx hb dR_weight_40 (by decide) ?_
      refine lv_goto (tgt := 57) hx hb dR_weight_41 (by decide) ?_
      have hkx : ∀ a : Nat, a ≠ x → M1 a = M a := fun a h1 => by rw [hM1, zw_un _ _ h1]
      exact W.iret (v := (-1)) hx hb hr (fun t ht hW => ⟨⟨(-1), (M1, sz), rfl, ⟨rfl, ⟨pt, Y, hR.cnt (st' := st) rfl rfl rfl rfl hx0 (fun a e h1 h2 => (hkx a h1).trans h2)⟩, fun q h1 h2 => hkx q h1, rfl⟩, by rw [ht]; exact hH, by rw [ht]; exact hsz⟩, hS.F ht⟩) hS.2.2 dR_weight_57
    · refine lv_iload_n hx hb dR_weight_18 rfl (lv_at hl 2 rfl) ?_
      refine lv_aload_n hx hb dR_weight_19 rfl (lv_at hl 0 rfl) ?_
      refine va_get (D := G.1) (ci := 2) (v := .ref (z + 1)) (C := RR) (T := TR) (N := 22) hx hb hz iR hown hK (hH.one hx0) 0 rfl rfl 4 (by decide) (hz _ zm_392) (fun _ h9 => h9) rfl dR_weight_20 ?_
      refine lv_aload_n hx hb dR_weight_23 rfl (lv_at hl 0 rfl) ?_
      refine lv_iload_n hx hb dR_weight_24 rfl (lv_at hl 1 rfl) ?_
      refine zr_V (As := [.int (nI j)]) (rest := [.ref (z + 1), .int sq]) (q := (RR, TR, 22)) ⟨hx, hb, hml, hown, hz⟩ (kR_isReplica_in l G B M1 x z n mb st 0 pt Y hn hRn j hj) (zt_V zm_463 zm_465 zs_15 zm_3 zm_466) rfl rfl rfl (show _ ∧ _ ∧ _ ∧ _ = some 1 from by decide +kernel) ⟨Nat.le_of_ble_eq_true rfl, Nat.le_of_ble_eq_true rfl⟩ zE_blind (zE_at hE hS) hH hK hx0 rfl rfl hl.1 rfl (Nat.le_of_ble_eq_true rfl) dR_weight_25 ⟨Nat.le_of_ble_eq_true rfl, Nat.le_of_ble_eq_true rfl⟩ ?_
      refine zc_eq0 (tgt := 35) hx hb dR_weight_28 (by decide) (by decide) (fun b17 => ?_) (fun b17 => ?_)
      · exact absurd b17 (by decide)
      · refine lv_iload_n hx hb dR_weight_31 rfl (lv_at hl 1 rfl) ?_
        refine lv_goto (tgt := 36) hx hb dR_weight_32 (by decide) ?_
        refine zw_iald hx hb hK hH 0 hmd rfl (j) rfl (by omega) (by decide) dR_weight_36 ?_
        refine lv_icmp_le (tgt := 44) hx hb dR_weight_37 (by decide) (fun c3 => ?_) (fun c3 => ?_)
        · exact absurd c3 (hs.resolve_left c2)
        · refine lv_iconst (v := (-1)) hx hb dR_weight_40 (by decide) ?_
          refine lv_goto (tgt := 57) hx hb dR_weight_41 (by decide) ?_
          have hkx : ∀ a : Nat, a ≠ x → M1 a = M a := fun a h1 => by rw [hM1, zw_un _ _ h1]
          exact W.iret (v := (-1)) hx hb hr (fun t ht hW => ⟨⟨(-1), (M1, sz), rfl, ⟨rfl, ⟨pt, Y, hR.cnt (st' := st) rfl rfl rfl rfl hx0 (fun a e h1 h2 => (hkx a h1).trans h2)⟩, fun q h1 h2 => hkx q h1, rfl⟩, by rw [ht]; exact hH, by rw [ht]; exact hsz⟩, hS.F ht⟩) hS.2.2 dR_weight_57

set_option maxHeartbeats 4000000 in
set_option maxRecDepth 100000 in
theorem kR_weight_out1 (l : Launch) (G : zG) (B : Nat) (M : zw_M) (sz : Nat) (x z n mb : Nat) (st : zSt) (th pt : Nat) (Y : zRX) (hn : n ≤ 8) (hR : zRR G M x z n mb st th pt Y) (a : Int32) (ha : a < 0 ∨ nI n ≤ a) (sq : Int32) : Met l yR_weight (Cond.code yR_weight bR_weight 3 (some .int) :: zT) { frames := 1, cells := 0, slots := 0, locals := 24 } (zq G B M sz [.ref x, .int a, .int sq]) (va_Qi (fun (r : Int32) (u : zw_M × Nat) => r = -1 ∧ zRO G x z n mb sz M st 0 u) (zr_o G.1 zCl B) (zw_A B)) (0) (0) (zw_A B) := by
  refine Met.ofW (cc := bR_weight) (maxL := 3) (ret := (some .int)) (by decide) rfl ?_
  intro p e s m args below meth c s₁ B0 hml hv
  obtain ⟨rfl, hE, hH, hsz⟩ := hv
  have hx := B0.exec
  have hb := B0.bytes
  have hr := B0.returns
  have hlocks := B0.notSynchronized
  have hz : ∀ w ∈ zT, w.before _ s = true := fun w h => atoms_spec (ws := Cond.code yR_weight bR_weight 3 (some .int) :: zT) B0.pre w (List.mem_cons_of_mem _ h)
  have hown : s.vm.findClass RR = some m.cls := findClass_of_methodNamed B0.named
  have hK := hE.1
  have hl := lv_entry ([.ref x, .int a, .int sq]) (n := 3) (Nat.le_of_ble_eq_true rfl)
  rw [lg_entry_eq]
  generalize (lg_sl ([.ref x, .int a, .int sq]) ++ List.replicate (3 - (lg_sl ([.ref x, .int a, .int sq])).length) Slot.unset).toArray = ls at hl ⊢
  have hl : lv_has ls 3 [(0, .ref x), (1, .int a), (2, .int sq)] := hl
  have hS : va_S (zw_A B) s.heap s.heap [] := va_S.rf
  have hin : meth.name = "weight" := (name_of_methodNamed B0.named B0.method).1
  have hx0 := hR.obj
  have hxz := hR.xz
  refine lv_aload_n hx hb dR_weight_0 rfl (lv_at hl 0 rfl) ?_
  refine lv_iconst (v := nI 0) hx hb dR_weight_1 (by decide) ?_
  refine zw_put (D := G.1) (ci := 2) (v := .int (nI 0)) (ty := .int) (C := RR) (T := TR) (N := 22) hx hb hz iR tR tR_ok nR hown hK hH hS hx0 rfl 0 (by decide) (hz _ zm_388) (fun _ h9 => h9) rfl (by decide +kernel) rfl rfl (Nat.le_of_ble_eq_true rfl) dR_weight_2 (fun H1 L1 hH hz1 hS => ?_)
  have hsz : H1.size = sz := hz1.trans hsz
  obtain ⟨M1, hM1⟩ : ∃ Mq, Mq = zw_u M x (.inr (2, zoR 0 n mb z st.fl.length st.se st.lo st.go st.pa pt)) := ⟨_, rfl⟩
  have hH : zw_H G.1 zCl B M1 H1 := by rw [hM1]; exact hH
  have hx0 : M1 x = some (.inr (2, zoR 0 n mb z st.fl.length st.se st.lo st.go st.pa pt)) := by rw [hM1]; exact zw_us _ _ _
  refine lv_aload_n hx hb dR_weight_5 rfl (lv_at hl 0 rfl) ?_
  refine lv_iload_n hx hb dR_weight_6 rfl (lv_at hl 1 rfl) ?_
  have hkx : ∀ a : Nat, a ≠ x → M1 a = M a := fun a h1 => by rw [hM1, zw_un _ _ h1]
  have hRn : zRR G M1 x z n mb st 0 pt Y := hR.cnt (st' := st) rfl rfl rfl rfl hx0 (fun a e h1 h2 => (hkx a h1).trans h2)
  refine zr_V (As := [.int a]) (rest := []) (q := (RR, TR, 22)) ⟨hx, hb, hml, hown, hz⟩ (kR_isReplica_out l G B M1 x z n mb st 0 pt Y hn hRn a ha) (zt_V zm_463 zm_465 zs_15 zm_3 zm_466) rfl rfl rfl (show _ ∧ _ ∧ _ ∧ _ = some 1 from by decide +kernel) ⟨Nat.le_of_ble_eq_true rfl, Nat.le_of_ble_eq_true rfl⟩ zE_blind (zE_at hE hS) hH hK hx0 rfl rfl hl.1 rfl (Nat.le_of_ble_eq_true rfl) dR_weight_7 ⟨Nat.le_of_ble_eq_true rfl, Nat.le_of_ble_eq_true rfl⟩ ?_
  refine zc_eq0 (tgt := 40) hx hb dR_weight_10 (by decide) (by decide) (fun b18 => ?_) (fun b18 => ?_)
  · refine lv_iconst (v := (-1)) hx hb dR_weight_40 (by decide) ?_
    refine lv_goto (tgt := 57) hx hb dR_weight_41 (by decide) ?_
    have hkx : ∀ a : Nat, a ≠ x → M1 a = M a := fun a h1 => by rw [hM1, zw_un _ _ h1]
    exact W.iret (v := (-1)) hx hb hr (fun t ht hW => ⟨⟨(-1), (M1, sz), rfl, ⟨rfl, ⟨pt, Y, hR.cnt (st' := st) rfl rfl rfl rfl hx0 (fun a e h1 h2 => (hkx a h1).trans h2)⟩, fun q h1 h2 => hkx q h1, rfl⟩, by rw [ht]; exact hH, by rw [ht]; exact hsz⟩, hS.F ht⟩) hS.2.2 dR_weight_57
  · exact absurd b18 (by decide)

set_option maxHeartbeats 4000000 in
set_option maxRecDepth 100000 in
theorem kR_told_clock (l : Launch) (G : zG) (B : Nat) (M : zw_M) (sz : Nat) (x z n mb : Nat) (st : zSt) (th pt : Nat) (Y : zRX) (hn : n ≤ 8) (hR : zRR G M x z n mb st th pt Y) (h120 : st.fl.length ≤ 120) (j : Nat) (hj : j < st.fl.length) (mg : zMg) (hmg : st.fl[j]? = some mg) (k : Int64) (hk : mg.ck = some k) : Met l yR_told (Cond.code yR_told bR_told 2 (some .long) :: zT) { frames := 1, cells := 0, slots := 0, locals := 24 } (zq G B M sz [.ref x, .int (nI j)]) (va_Ql (fun (r : Int64) (u : zw_M × Nat) => r = k ∧ zRO G x z n mb sz M st 0 u) (zr_o G.1 zCl B) (zw_A B)) (0) (0) (zw_A B) := by
  refine Met.ofW (cc := bR_told) (maxL := 2) (ret := (some .long)) (by decide) rfl ?_
  intro p e s m args below meth c s₁ B0 hml hv
  obtain ⟨rfl, hE, hH, hsz⟩ := hv
  have hx := B0.exec
  have hb := B0.bytes
  have hr := B0.returns
  have hlocks := B0.notSynchronized
  have hz : ∀ w ∈ zT, w.before _ s = true := fun w h => atoms_spec (ws := Cond.code yR_told bR_told 2 (some .long) :: zT) B0.pre w (List.mem_cons_of_mem _ h)
  have hown : s.vm.findClass RR = some m.cls := findClass_of_methodNamed B0.named
  have hK := hE.1
  have hl := lv_entry ([.ref x, .int (nI j)]) (n := 2) (Nat.le_of_ble_eq_true rfl)
  rw [lg_entry_eq]
  generalize (lg_sl ([.ref x, .int (nI j)]) ++ List.replicate (2 - (lg_sl ([.ref x, .int (nI j)])).length) Slot.unset).toArray = ls at hl ⊢
  have hl : lv_has ls 2 [(0, .ref x), (1, .int (nI j))] := hl
  have hS : va_S (zw_A B) s.heap s.heap [] := va_S.rf
  have hin : meth.name = "told" := (name_of_methodNamed B0.named B0.method).1
  obtain ⟨m1, m2, m3, m4, m5, m6⟩ := hR.msg j mg hmg
  have hrb := hR.rwb j (by omega)
  have hsi0 : Y.si (Y.rw j) = -1 := by rw [m4, hk]; rfl
  have hx0 := hR.obj
  have hrw := hR.rw
  have hsi := hR.si
  have hcl := hR.cl
  have hxz := hR.xz
  refine lv_aload_n hx hb dR_told_0 rfl (lv_at hl 0 rfl) ?_
  refine lv_iconst (v := nI 0) hx hb dR_told_1 (by decide) ?_
  refine zw_put (D := G.1) (ci := 2) (v := .int (nI 0)) (ty := .int) (C := RR) (T := TR) (N := 22) hx hb hz iR tR tR_ok nR hown hK hH hS hx0 rfl 0 (by decide) (hz _ zm_388) (fun _ h9 => h9) rfl (by decide +kernel) rfl rfl (Nat.le_of_ble_eq_true rfl) dR_told_2 (fun H1 L1 hH hz1 hS => ?_)
  have hsz : H1.size = sz := hz1.trans hsz
  obtain ⟨M1, hM1⟩ : ∃ Mq, Mq = zw_u M x (.inr (2, zoR 0 n mb z st.fl.length st.se st.lo st.go st.pa pt)) := ⟨_, rfl⟩
  have hH : zw_H G.1 zCl B M1 H1 := by rw [hM1]; exact hH
  have hrw : M1 (z + 5) = some (.inl (G.2.1 0, 120, .inl (fun a9 => nI (Y.rw a9)))) := by rw [hM1, zw_un _ _ (by omega)]; exact hrw
  have hsi : M1 (z + 9) = some (.inl (G.2.1 0, 120, .inl Y.si)) := by rw [hM1, zw_un _ _ (by omega)]; exact hsi
  have hcl : M1 (z + 10) = some (.inl (G.2.1 1, 120, .inr (.inl Y.cl))) := by rw [hM1, zw_un _ _ (by omega)]; exact hcl
  have hx0 : M1 x = some (.inr (2, zoR 0 n mb z st.fl.length st.se st.lo st.go st.pa pt)) := by rw [hM1]; exact zw_us _ _ _
  refine lv_aload_n hx hb dR_told_5 rfl (lv_at hl 0 rfl) ?_
  refine lv_iload_n hx hb dR_told_6 rfl (lv_at hl 1 rfl) ?_
  have hkx : ∀ a : Nat, a ≠ x → M1 a = M a := fun a h1 => by rw [hM1, zw_un _ _ h1]
  have hRn : zRR G M1 x z n mb st 0 pt Y := hR.cnt (st' := st) rfl rfl rfl rfl hx0 (fun a e h1 h2 => (hkx a h1).trans h2)
  refine zr_V (As := [.int (nI j)]) (rest := []) (q := (RR, TR, 22)) ⟨hx, hb, hml, hown, hz⟩ (kR_isMessage_in l G B M1 x z n mb st 0 pt Y hn hRn h120 j hj) (zt_V zm_491 zm_493 zs_20 zm_3 zm_494) rfl rfl rfl (show _ ∧ _ ∧ _ ∧ _ = some 1 from by decide +kernel) ⟨Nat.le_of_ble_eq_true rfl, Nat.le_of_ble_eq_true rfl⟩ zE_blind (zE_at hE hS) hH hK hx0 rfl rfl hl.1 rfl (Nat.le_of_ble_eq_true rfl) dR_told_7 ⟨Nat.le_of_ble_eq_true rfl, Nat.le_of_ble_eq_true rfl⟩ ?_
  refine zc_eq0 (tgt := 39) hx hb dR_told_10 (by decide) (by decide) (fun b19 => ?_) (fun b19 => ?_)
  · exact absurd b19 (by decide)
  · refine lv_aload_n hx hb dR_told_13 rfl (lv_at hl 0 rfl) ?_
    refine va_get (D := G.1) (ci := 2) (v := .ref (z + 9)) (C := RR) (T := TR) (N := 22) hx hb hz iR hown hK (hH.one hx0) 0 rfl rfl 13 (by decide) (hz _ zm_401) (fun _ h9 => h9) rfl dR_told_14 ?_
    refine lv_aload_n hx hb dR_told_17 rfl (lv_at hl 0 rfl) ?_
    refine va_get (D := G.1) (ci := 2) (v := .ref (z + 5)) (C := RR) (T := TR) (N := 22) hx hb hz iR hown hK (hH.one hx0) 0 rfl rfl 8 (by decide) (hz _ zm_396) (fun _ h9 => h9) rfl dR_told_18 ?_
    refine lv_aload_n hx hb dR_told_21 rfl (lv_at hl 0 rfl) ?_
    refine lv_iload_n hx hb dR_told_22 rfl (lv_at hl 1 rfl) ?_
    refine zr_V (As := [.int (nI j)]) (rest := [.ref (z + 5), .ref (z + 9)]) (q := (RR, TR, 22)) ⟨hx, hb, hml, hown, hz⟩ (kR_isMessage_in l G B M1 x z n mb st 0 pt Y hn hRn h120 j hj) (zt_V zm_491 zm_493 zs_20 zm_3 zm_494) rfl rfl rfl (show _ ∧ _ ∧ _ ∧ _ = some 1 from by decide +kernel) ⟨Nat.le_of_ble_eq_true rfl, Nat.le_of_ble_eq_true rfl⟩ zE_blind (zE_at hE hS) hH hK hx0 rfl rfl hl.1 rfl (Nat.le_of_ble_eq_true rfl) dR_told_23 ⟨Nat.le_of_ble_eq_true rfl, Nat.le_of_ble_eq_true rfl⟩ ?_
    refine zc_eq0 (tgt := 33) hx hb dR_told_26 (by decide) (by decide) (fun b20 => ?_) (fun b20 => ?_)
    · exact absurd b20 (by decide)
    · refine lv_iload_n hx hb dR_told_29 rfl (lv_at hl 1 rfl) ?_
      refine lv_goto (tgt := 34) hx hb dR_told_30 (by decide) ?_
      refine zw_iald hx hb hK hH 0 hrw rfl (j) rfl (by omega) (by decide) dR_told_34 ?_
      refine zw_iald hx hb hK hH 0 hsi rfl (Y.rw j) rfl (hrb) (by decide) dR_told_35 ?_
      rw [hsi0]
      refine lv_if_lt (tgt := 45) hx hb dR_told_36 (by decide) (fun _ => ?_) (fun h => absurd (by decide) h)
      refine lv_aload_n hx hb dR_told_45 rfl (lv_at hl 0 rfl) ?_
      refine va_get (D := G.1) (ci := 2) (v := .ref (z + 10)) (C := RR) (T := TR) (N := 22) hx hb hz iR hown hK (hH.one hx0) 0 rfl rfl 14 (by decide) (hz _ zm_402) (fun _ h9 => h9) rfl dR_told_46 ?_
      refine lv_aload_n hx hb dR_told_49 rfl (lv_at hl 0 rfl) ?_
      refine va_get (D := G.1) (ci := 2) (v := .ref (z + 5)) (C := RR) (T := TR) (N := 22) hx hb hz iR hown hK (hH.one hx0) 0 rfl rfl 8 (by decide) (hz _ zm_396) (fun _ h9 => h9) rfl dR_told_50 ?_
      refine lv_iload_n hx hb dR_told_53 rfl (lv_at hl 1 rfl) ?_
      refine zw_iald hx hb hK hH 0 hrw rfl (j) rfl (by omega) (by decide) dR_told_54 ?_
      refine zw_lald hx hb hK hH 1 hcl rfl (Y.rw j) rfl (hrb) (by decide) dR_told_55 ?_
      refine zw_tl (m5 k hk) ?_
      have hkx : ∀ a : Nat, a ≠ x → M1 a = M a := fun a h1 => by rw [hM1, zw_un _ _ h1]
      exact W.lret (v := k) hx hb hr (fun t ht hW => ⟨⟨k, (M1, sz), rfl, ⟨rfl, ⟨pt, Y, hR.cnt (st' := st) rfl rfl rfl rfl hx0 (fun a e h1 h2 => (hkx a h1).trans h2)⟩, fun q h1 h2 => hkx q h1, rfl⟩, by rw [ht]; exact hH, by rw [ht]; exact hsz⟩, hS.F ht⟩) hS.2.2 dR_told_56

set_option maxHeartbeats 4000000 in
set_option maxRecDepth 100000 in
theorem kR_told_part (l : Launch) (G : zG) (B : Nat) (M : zw_M) (sz : Nat) (x z n mb : Nat) (st : zSt) (th pt : Nat) (Y : zRX) (hn : n ≤ 8) (hR : zRR G M x z n mb st th pt Y) (h120 : st.fl.length ≤ 120) (j : Nat) (hj : j < st.fl.length) (mg : zMg) (hmg : st.fl[j]? = some mg) (hk : mg.ck = none) (hl4 : mg.chs.length ≤ 480) : Met l yR_told (Cond.code yR_told bR_told 2 (some .long) :: zT) { frames := 1, cells := 0, slots := 0, locals := 24 } (zq G B M sz [.ref x, .int (nI j)]) (va_Ql (fun (r : Int64) (u : zw_M × Nat) => r = -1 ∧ zRO G x z n mb sz M st 0 u) (zr_o G.1 zCl B) (zw_A B)) (0) (0) (zw_A B) := by
  refine Met.ofW (cc := bR_told) (maxL := 2) (ret := (some .long)) (by decide) rfl ?_
  intro p e s m args below meth c s₁ B0 hml hv
  obtain ⟨rfl, hE, hH, hsz⟩ := hv
  have hx := B0.exec
  have hb := B0.bytes
  have hr := B0.returns
  have hlocks := B0.notSynchronized
  have hz : ∀ w ∈ zT, w.before _ s = true := fun w h => atoms_spec (ws := Cond.code yR_told bR_told 2 (some .long) :: zT) B0.pre w (List.mem_cons_of_mem _ h)
  have hown : s.vm.findClass RR = some m.cls := findClass_of_methodNamed B0.named
  have hK := hE.1
  have hl := lv_entry ([.ref x, .int (nI j)]) (n := 2) (Nat.le_of_ble_eq_true rfl)
  rw [lg_entry_eq]
  generalize (lg_sl ([.ref x, .int (nI j)]) ++ List.replicate (2 - (lg_sl ([.ref x, .int (nI j)])).length) Slot.unset).toArray = ls at hl ⊢
  have hl : lv_has ls 2 [(0, .ref x), (1, .int (nI j))] := hl
  have hS : va_S (zw_A B) s.heap s.heap [] := va_S.rf
  have hin : meth.name = "told" := (name_of_methodNamed B0.named B0.method).1
  obtain ⟨m1, m2, m3, m4, m5, m6⟩ := hR.msg j mg hmg
  have hrb := hR.rwb j (by omega)
  have hsi0 : Y.si (Y.rw j) = nI mg.chs.length := by rw [m4, hk]; rfl
  have hx0 := hR.obj
  have hrw := hR.rw
  have hsi := hR.si
  have hxz := hR.xz
  refine lv_aload_n hx hb dR_told_0 rfl (lv_at hl 0 rfl) ?_
  refine lv_iconst (v := nI 0) hx hb dR_told_1 (by decide) ?_
  refine zw_put (D := G.1) (ci := 2) (v := .int (nI 0)) (ty := .int) (C := RR) (T := TR) (N := 22) hx hb hz iR tR tR_ok nR hown hK hH hS hx0 rfl 0 (by decide) (hz _ zm_388) (fun _ h9 => h9) rfl (by decide +kernel) rfl rfl (Nat.le_of_ble_eq_true rfl) dR_told_2 (fun H1 L1 hH hz1 hS => ?_)
  have hsz : H1.size = sz := hz1.trans hsz
  obtain ⟨M1, hM1⟩ : ∃ Mq, Mq = zw_u M x (.inr (2, zoR 0 n mb z st.fl.length st.se st.lo st.go st.pa pt)) := ⟨_, rfl⟩
  have hH : zw_H G.1 zCl B M1 H1 := by rw [hM1]; exact hH
  have hrw : M1 (z + 5) = some (.inl (G.2.1 0, 120, .inl (fun a9 => nI (Y.rw a9)))) := by rw [hM1, zw_un _ _ (by omega)]; exact hrw
  have hsi : M1 (z + 9) = some (.inl (G.2.1 0, 120, .inl Y.si)) := by rw [hM1, zw_un _ _ (by omega)]; exact hsi
  have hx0 : M1 x = some (.inr (2, zoR 0 n mb z st.fl.length st.se st.lo st.go st.pa pt)) := by rw [hM1]; exact zw_us _ _ _
  refine lv_aload_n hx hb dR_told_5 rfl (lv_at hl 0 rfl) ?_
  refine lv_iload_n hx hb dR_told_6 rfl (lv_at hl 1 rfl) ?_
  have hkx : ∀ a : Nat, a ≠ x → M1 a = M a := fun a h1 => by rw [hM1, zw_un _ _ h1]
  have hRn : zRR G M1 x z n mb st 0 pt Y := hR.cnt (st' := st) rfl rfl rfl rfl hx0 (fun a e h1 h2 => (hkx a h1).trans h2)
  refine zr_V (As := [.int (nI j)]) (rest := []) (q := (RR, TR, 22)) ⟨hx, hb, hml, hown, hz⟩ (kR_isMessage_in l G B M1 x z n mb st 0 pt Y hn hRn h120 j hj) (zt_V zm_491 zm_493 zs_20 zm_3 zm_494) rfl rfl rfl (show _ ∧ _ ∧ _ ∧ _ = some 1 from by decide +kernel) ⟨Nat.le_of_ble_eq_true rfl, Nat.le_of_ble_eq_true rfl⟩ zE_blind (zE_at hE hS) hH hK hx0 rfl rfl hl.1 rfl (Nat.le_of_ble_eq_true rfl) dR_told_7 ⟨Nat.le_of_ble_eq_true rfl, Nat.le_of_ble_eq_true rfl⟩ ?_
  refine zc_eq0 (tgt := 39) hx hb dR_told_10 (by decide) (by decide) (fun b21 => ?_) (fun b21 => ?_)
  · exact absurd b21 (by decide)
  · refine lv_aload_n hx hb dR_told_13 rfl (lv_at hl 0 rfl) ?_
    refine va_get (D := G.1) (ci := 2) (v := .ref (z + 9)) (C := RR) (T := TR) (N := 22) hx hb hz iR hown hK (hH.one hx0) 0 rfl rfl 13 (by decide) (hz _ zm_401) (fun _ h9 => h9) rfl dR_told_14 ?_
    refine lv_aload_n hx hb dR_told_17 rfl (lv_at hl 0 rfl) ?_
    refine va_get (D := G.1) (ci := 2) (v := .ref (z + 5)) (C := RR) (T := TR) (N := 22) hx hb hz iR hown hK (hH.one hx0) 0 rfl rfl 8 (by decide) (hz _ zm_396) (fun _ h9 => h9) rfl dR_told_18 ?_
    refine lv_aload_n hx hb dR_told_21 rfl (lv_at hl 0 rfl) ?_
    refine lv_iload_n hx hb dR_told_22 rfl (lv_at hl 1 rfl) ?_
    refine zr_V (As := [.int (nI j)]) (rest := [.ref (z + 5), .ref (z + 9)]) (q := (RR, TR, 22)) ⟨hx, hb, hml, hown, hz⟩ (kR_isMessage_in l G B M1 x z n mb st 0 pt Y hn hRn h120 j hj) (zt_V zm_491 zm_493 zs_20 zm_3 zm_494) rfl rfl rfl (show _ ∧ _ ∧ _ ∧ _ = some 1 from by decide +kernel) ⟨Nat.le_of_ble_eq_true rfl, Nat.le_of_ble_eq_true rfl⟩ zE_blind (zE_at hE hS) hH hK hx0 rfl rfl hl.1 rfl (Nat.le_of_ble_eq_true rfl) dR_told_23 ⟨Nat.le_of_ble_eq_true rfl, Nat.le_of_ble_eq_true rfl⟩ ?_
    refine zc_eq0 (tgt := 33) hx hb dR_told_26 (by decide) (by decide) (fun b22 => ?_) (fun b22 => ?_)
    · exact absurd b22 (by decide)
    · refine lv_iload_n hx hb dR_told_29 rfl (lv_at hl 1 rfl) ?_
      refine lv_goto (tgt := 34) hx hb dR_told_30 (by decide) ?_
      refine zw_iald hx hb hK hH 0 hrw rfl (j) rfl (by omega) (by decide) dR_told_34 ?_
      refine zw_iald hx hb hK hH 0 hsi rfl (Y.rw j) rfl (hrb) (by decide) dR_told_35 ?_
      refine zw_ti (hsi0) ?_
      refine zc_lt0 (tgt := 45) hx hb dR_told_36 (by decide) (by omega) ?_
      refine lv_ldc2 hx hb hown (hz _ zm_540) dR_told_39 ?_
      refine lv_goto (tgt := 56) hx hb dR_told_42 (by decide) ?_
      have hkx : ∀ a : Nat, a ≠ x → M1 a = M a := fun a h1 => by rw [hM1, zw_un _ _ h1]
      exact W.lret (v := (-1)) hx hb hr (fun t ht hW => ⟨⟨(-1), (M1, sz), rfl, ⟨rfl, ⟨pt, Y, hR.cnt (st' := st) rfl rfl rfl rfl hx0 (fun a e h1 h2 => (hkx a h1).trans h2)⟩, fun q h1 h2 => hkx q h1, rfl⟩, by rw [ht]; exact hH, by rw [ht]; exact hsz⟩, hS.F ht⟩) hS.2.2 dR_told_56

set_option maxHeartbeats 4000000 in
set_option maxRecDepth 100000 in
theorem kR_told_out (l : Launch) (G : zG) (B : Nat) (M : zw_M) (sz : Nat) (x z n mb : Nat) (st : zSt) (th pt : Nat) (Y : zRX) (hn : n ≤ 8) (hR : zRR G M x z n mb st th pt Y) (a : Int32) (ha : a < 0 ∨ nI st.fl.length ≤ a) : Met l yR_told (Cond.code yR_told bR_told 2 (some .long) :: zT) { frames := 1, cells := 0, slots := 0, locals := 24 } (zq G B M sz [.ref x, .int a]) (va_Ql (fun (r : Int64) (u : zw_M × Nat) => r = -1 ∧ zRO G x z n mb sz M st 0 u) (zr_o G.1 zCl B) (zw_A B)) (0) (0) (zw_A B) := by
  refine Met.ofW (cc := bR_told) (maxL := 2) (ret := (some .long)) (by decide) rfl ?_
  intro p e s m args below meth c s₁ B0 hml hv
  obtain ⟨rfl, hE, hH, hsz⟩ := hv
  have hx := B0.exec
  have hb := B0.bytes
  have hr := B0.returns
  have hlocks := B0.notSynchronized
  have hz : ∀ w ∈ zT, w.before _ s = true := fun w h => atoms_spec (ws := Cond.code yR_told bR_told 2 (some .long) :: zT) B0.pre w (List.mem_cons_of_mem _ h)
  have hown : s.vm.findClass RR = some m.cls := findClass_of_methodNamed B0.named
  have hK := hE.1
  have hl := lv_entry ([.ref x, .int a]) (n := 2) (Nat.le_of_ble_eq_true rfl)
  rw [lg_entry_eq]
  generalize (lg_sl ([.ref x, .int a]) ++ List.replicate (2 - (lg_sl ([.ref x, .int a])).length) Slot.unset).toArray = ls at hl ⊢
  have hl : lv_has ls 2 [(0, .ref x), (1, .int a)] := hl
  have hS : va_S (zw_A B) s.heap s.heap [] := va_S.rf
  have hin : meth.name = "told" := (name_of_methodNamed B0.named B0.method).1
  have hx0 := hR.obj
  have hxz := hR.xz
  refine lv_aload_n hx hb dR_told_0 rfl (lv_at hl 0 rfl) ?_
  refine lv_iconst (v := nI 0) hx hb dR_told_1 (by decide) ?_
  refine zw_put (D := G.1) (ci := 2) (v := .int (nI 0)) (ty := .int) (C := RR) (T := TR) (N := 22) hx hb hz iR tR tR_ok nR hown hK hH hS hx0 rfl 0 (by decide) (hz _ zm_388) (fun _ h9 => h9) rfl (by decide +kernel) rfl rfl (Nat.le_of_ble_eq_true rfl) dR_told_2 (fun H1 L1 hH hz1 hS => ?_)
  have hsz : H1.size = sz := hz1.trans hsz
  obtain ⟨M1, hM1⟩ : ∃ Mq, Mq = zw_u M x (.inr (2, zoR 0 n mb z st.fl.length st.se st.lo st.go st.pa pt)) := ⟨_, rfl⟩
  have hH : zw_H G.1 zCl B M1 H1 := by rw [hM1]; exact hH
  have hx0 : M1 x = some (.inr (2, zoR 0 n mb z st.fl.length st.se st.lo st.go st.pa pt)) := by rw [hM1]; exact zw_us _ _ _
  refine lv_aload_n hx hb dR_told_5 rfl (lv_at hl 0 rfl) ?_
  refine lv_iload_n hx hb dR_told_6 rfl (lv_at hl 1 rfl) ?_
  have hkx : ∀ a : Nat, a ≠ x → M1 a = M a := fun a h1 => by rw [hM1, zw_un _ _ h1]
  have hRn : zRR G M1 x z n mb st 0 pt Y := hR.cnt (st' := st) rfl rfl rfl rfl hx0 (fun a e h1 h2 => (hkx a h1).trans h2)
  refine zr_V (As := [.int a]) (rest := []) (q := (RR, TR, 22)) ⟨hx, hb, hml, hown, hz⟩ (kR_isMessage_out l G B M1 x z n mb st 0 pt Y hn hRn a ha) (zt_V zm_491 zm_493 zs_20 zm_3 zm_494) rfl rfl rfl (show _ ∧ _ ∧ _ ∧ _ = some 1 from by decide +kernel) ⟨Nat.le_of_ble_eq_true rfl, Nat.le_of_ble_eq_true rfl⟩ zE_blind (zE_at hE hS) hH hK hx0 rfl rfl hl.1 rfl (Nat.le_of_ble_eq_true rfl) dR_told_7 ⟨Nat.le_of_ble_eq_true rfl, Nat.le_of_ble_eq_true rfl⟩ ?_
  refine zc_eq0 (tgt := 39) hx hb dR_told_10 (by decide) (by decide) (fun b23 => ?_) (fun b23 => ?_)
  · refine lv_ldc2 hx hb hown (hz _ zm_540) dR_told_39 ?_
    refine lv_goto (tgt := 56) hx hb dR_told_42 (by decide) ?_
    have hkx : ∀ a : Nat, a ≠ x → M1 a = M a := fun a h1 => by rw [hM1, zw_un _ _ h1]
    exact W.lret (v := (-1)) hx hb hr (fun t ht hW => ⟨⟨(-1), (M1, sz), rfl, ⟨rfl, ⟨pt, Y, hR.cnt (st' := st) rfl rfl rfl rfl hx0 (fun a e h1 h2 => (hkx a h1).trans h2)⟩, fun q h1 h2 => hkx q h1, rfl⟩, by rw [ht]; exact hH, by rw [ht]; exact hsz⟩, hS.F ht⟩) hS.2.2 dR_told_56
  · exact absurd b23 (by decide)

set_option maxHeartbeats 4000000 in
set_option maxRecDepth 100000 in
theorem kR_inside_in (l : Launch) (G : zG) (B : Nat) (M : zw_M) (sz : Nat) (x z n mb : Nat) (st : zSt) (th pt : Nat) (Y : zRX) (hn : n ≤ 8) (hR : zRR G M x z n mb st th pt Y) (h120 : st.fl.length ≤ 120) (j : Nat) (hj : j < st.fl.length) (mg : zMg) (hmg : st.fl[j]? = some mg) (hk : mg.ck = none) (hl4 : mg.chs.length ≤ 480) (k : Nat) (hkl : k < mg.chs.length) : Met l yR_inside (Cond.code yR_inside bR_inside 3 (some .int) :: zT) { frames := 1, cells := 0, slots := 0, locals := 24 } (zq G B M sz [.ref x, .int (nI j), .int (nI k)]) (va_Qi (fun (r : Int32) (u : zw_M × Nat) => r = nI (mg.chs.getD k 0) ∧ zRO G x z n mb sz M st 0 u) (zr_o G.1 zCl B) (zw_A B)) (0) (0) (zw_A B) := by
  refine Met.ofW (cc := bR_inside) (maxL := 3) (ret := (some .int)) (by decide) rfl ?_
  intro p e s m args below meth c s₁ B0 hml hv
  obtain ⟨rfl, hE, hH, hsz⟩ := hv
  have hx := B0.exec
  have hb := B0.bytes
  have hr := B0.returns
  have hlocks := B0.notSynchronized
  have hz : ∀ w ∈ zT, w.before _ s = true := fun w h => atoms_spec (ws := Cond.code yR_inside bR_inside 3 (some .int) :: zT) B0.pre w (List.mem_cons_of_mem _ h)
  have hown : s.vm.findClass RR = some m.cls := findClass_of_methodNamed B0.named
  have hK := hE.1
  have hl := lv_entry ([.ref x, .int (nI j), .int (nI k)]) (n := 3) (Nat.le_of_ble_eq_true rfl)
  rw [lg_entry_eq]
  generalize (lg_sl ([.ref x, .int (nI j), .int (nI k)]) ++ List.replicate (3 - (lg_sl ([.ref x, .int (nI j), .int (nI k)])).length) Slot.unset).toArray = ls at hl ⊢
  have hl : lv_has ls 3 [(0, .ref x), (1, .int (nI j)), (2, .int (nI k))] := hl
  have hS : va_S (zw_A B) s.heap s.heap [] := va_S.rf
  have hin : meth.name = "inside" := (name_of_methodNamed B0.named B0.method).1
  obtain ⟨m1, m2, m3, m4, m5, m6⟩ := hR.msg j mg hmg
  have hrb := hR.rwb j (by omega)
  have hsi0 : Y.si (Y.rw j) = nI mg.chs.length := by rw [m4, hk]; rfl
  have hx0 := hR.obj
  have hrw := hR.rw
  have hsi := hR.si
  have hins := hR.ins
  have hxz := hR.xz
  refine lv_aload_n hx hb dR_inside_0 rfl (lv_at hl 0 rfl) ?_
  refine lv_iconst (v := nI 0) hx hb dR_inside_1 (by decide) ?_
  refine zw_put (D := G.1) (ci := 2) (v := .int (nI 0)) (ty := .int) (C := RR) (T := TR) (N := 22) hx hb hz iR tR tR_ok nR hown hK hH hS hx0 rfl 0 (by decide) (hz _ zm_388) (fun _ h9 => h9) rfl (by decide +kernel) rfl rfl (Nat.le_of_ble_eq_true rfl) dR_inside_2 (fun H1 L1 hH hz1 hS => ?_)
  have hsz : H1.size = sz := hz1.trans hsz
  obtain ⟨M1, hM1⟩ : ∃ Mq, Mq = zw_u M x (.inr (2, zoR 0 n mb z st.fl.length st.se st.lo st.go st.pa pt)) := ⟨_, rfl⟩
  have hH : zw_H G.1 zCl B M1 H1 := by rw [hM1]; exact hH
  have hrw : M1 (z + 5) = some (.inl (G.2.1 0, 120, .inl (fun a9 => nI (Y.rw a9)))) := by rw [hM1, zw_un _ _ (by omega)]; exact hrw
  have hsi : M1 (z + 9) = some (.inl (G.2.1 0, 120, .inl Y.si)) := by rw [hM1, zw_un _ _ (by omega)]; exact hsi
  have hins : M1 (z + 11) = some (.inl (G.2.1 0, 57600, .inl Y.ins)) := by rw [hM1, zw_un _ _ (by omega)]; exact hins
  have hx0 : M1 x = some (.inr (2, zoR 0 n mb z st.fl.length st.se st.lo st.go st.pa pt)) := by rw [hM1]; exact zw_us _ _ _
  refine lv_aload_n hx hb dR_inside_5 rfl (lv_at hl 0 rfl) ?_
  refine lv_iload_n hx hb dR_inside_6 rfl (lv_at hl 1 rfl) ?_
  have hkx : ∀ a : Nat, a ≠ x → M1 a = M a := fun a h1 => by rw [hM1, zw_un _ _ h1]
  have hRn : zRR G M1 x z n mb st 0 pt Y := hR.cnt (st' := st) rfl rfl rfl rfl hx0 (fun a e h1 h2 => (hkx a h1).trans h2)
  refine zr_V (As := [.int (nI j)]) (rest := []) (q := (RR, TR, 22)) ⟨hx, hb, hml, hown, hz⟩ (kR_isMessage_in l G B M1 x z n mb st 0 pt Y hn hRn h120 j hj) (zt_V zm_491 zm_493 zs_20 zm_3 zm_494) rfl rfl rfl (show _ ∧ _ ∧ _ ∧ _ = some 1 from by decide +kernel) ⟨Nat.le_of_ble_eq_true rfl, Nat.le_of_ble_eq_true rfl⟩ zE_blind (zE_at hE hS) hH hK hx0 rfl rfl hl.1 rfl (Nat.le_of_ble_eq_true rfl) dR_inside_7 ⟨Nat.le_of_ble_eq_true rfl, Nat.le_of_ble_eq_true rfl⟩ ?_
  refine zc_eq0 (tgt := 44) hx hb dR_inside_10 (by decide) (by decide) (fun b24 => ?_) (fun b24 => ?_)
  · exact absurd b24 (by decide)
  · refine lv_iload_n hx hb dR_inside_13 rfl (lv_at hl 2 rfl) ?_
    refine lv_if_lt (tgt := 44) hx hb dR_inside_14 (by decide) (fun c2 => ?_) (fun c2 => ?_)
    · exact absurd c2 (nI_pos (by omega))
    · refine lv_iload_n hx hb dR_inside_17 rfl (lv_at hl 2 rfl) ?_
      refine lv_aload_n hx hb dR_inside_18 rfl (lv_at hl 0 rfl) ?_
      refine va_get (D := G.1) (ci := 2) (v := .ref (z + 9)) (C := RR) (T := TR) (N := 22) hx hb hz iR hown hK (hH.one hx0) 0 rfl rfl 13 (by decide) (hz _ zm_401) (fun _ h9 => h9) rfl dR_inside_19 ?_
      refine lv_aload_n hx hb dR_inside_22 rfl (lv_at hl 0 rfl) ?_
      refine va_get (D := G.1) (ci := 2) (v := .ref (z + 5)) (C := RR) (T := TR) (N := 22) hx hb hz iR hown hK (hH.one hx0) 0 rfl rfl 8 (by decide) (hz _ zm_396) (fun _ h9 => h9) rfl dR_inside_23 ?_
      refine lv_aload_n hx hb dR_inside_26 rfl (lv_at hl 0 rfl) ?_
      refine lv_iload_n hx hb dR_inside_27 rfl (lv_at hl 1 rfl) ?_
      refine zr_V (As := [.int (nI j)]) (rest := [.ref (z + 5), .ref (z + 9), .int (nI k)]) (q := (RR, TR, 22)) ⟨hx, hb, hml, hown, hz⟩ (kR_isMessage_in l G B M1 x z n mb st 0 pt Y hn hRn h120 j hj) (zt_V zm_491 zm_493 zs_20 zm_3 zm_494) rfl rfl rfl (show _ ∧ _ ∧ _ ∧ _ = some 1 from by decide +kernel) ⟨Nat.le_of_ble_eq_true rfl, Nat.le_of_ble_eq_true rfl⟩ zE_blind (zE_at hE hS) hH hK hx0 rfl rfl hl.1 rfl (Nat.le_of_ble_eq_true rfl) dR_inside_28 ⟨Nat.le_of_ble_eq_true rfl, Nat.le_of_ble_eq_true rfl⟩ ?_
      refine zc_eq0 (tgt := 38) hx hb dR_inside_31 (by decide) (by decide) (fun b25 => ?_) (fun b25 => ?_)
      · exact absurd b25 (by decide)
      · refine lv_iload_n hx hb dR_inside_34 rfl (lv_at hl 1 rfl) ?_
        refine lv_goto (tgt := 39) hx hb dR_inside_35 (by decide) ?_
        refine zw_iald hx hb hK hH 0 hrw rfl (j) rfl (by omega) (by decide) dR_inside_39 ?_
        refine zw_iald hx hb hK hH 0 hsi rfl (Y.rw j) rfl (hrb) (by decide) dR_inside_40 ?_
        refine zw_ti (hsi0) ?_
        refine zc_lt (tgt := 48) hx hb dR_inside_41 (by decide) (by omega) (by omega) (fun c3 => ?_) (fun c3 => ?_)
        · refine lv_aload_n hx hb dR_inside_48 rfl (lv_at hl 0 rfl) ?_
          refine va_get (D := G.1) (ci := 2) (v := .ref (z + 11)) (C := RR) (T := TR) (N := 22) hx hb hz iR hown hK (hH.one hx0) 0 rfl rfl 15 (by decide) (hz _ zm_403) (fun _ h9 => h9) rfl dR_inside_49 ?_
          refine lv_sipush (v := nI 480) hx hb dR_inside_52 (by decide) ?_
          refine lv_aload_n hx hb dR_inside_55 rfl (lv_at hl 0 rfl) ?_
          refine va_get (D := G.1) (ci := 2) (v := .ref (z + 5)) (C := RR) (T := TR) (N := 22) hx hb hz iR hown hK (hH.one hx0) 0 rfl rfl 8 (by decide) (hz _ zm_396) (fun _ h9 => h9) rfl dR_inside_56 ?_
          refine lv_iload_n hx hb dR_inside_59 rfl (lv_at hl 1 rfl) ?_
          refine zw_iald hx hb hK hH 0 hrw rfl (j) rfl (by omega) (by decide) dR_inside_60 ?_
          refine lv_imul hx hb dR_inside_61 ?_
          refine zw_ti (pk_mul _ _) ?_
          refine lv_iload_n hx hb dR_inside_62 rfl (lv_at hl 2 rfl) ?_
          refine lv_iadd hx hb dR_inside_63 ?_
          refine zw_ti (nI_add _ _) ?_
          refine zw_iald hx hb hK hH 0 hins rfl (480 * Y.rw j + k) rfl (by omega) (by decide) dR_inside_64 ?_
          refine zw_ti (m6 k hkl) ?_
          have hkx : ∀ a : Nat, a ≠ x → M1 a = M a := fun a h1 => by rw [hM1, zw_un _ _ h1]
          exact W.iret (v := (nI (mg.chs.getD k 0))) hx hb hr (fun t ht hW => ⟨⟨(nI (mg.chs.getD k 0)), (M1, sz), rfl, ⟨rfl, ⟨pt, Y, hR.cnt (st' := st) rfl rfl rfl rfl hx0 (fun a e h1 h2 => (hkx a h1).trans h2)⟩, fun q h1 h2 => hkx q h1, rfl⟩, by rw [ht]; exact hH, by rw [ht]; exact hsz⟩, hS.F ht⟩) hS.2.2 dR_inside_65
        · exact absurd c3 (by omega)

set_option maxHeartbeats 4000000 in
set_option maxRecDepth 100000 in
theorem kR_inside_out2 (l : Launch) (G : zG) (B : Nat) (M : zw_M) (sz : Nat) (x z n mb : Nat) (st : zSt) (th pt : Nat) (Y : zRX) (hn : n ≤ 8) (hR : zRR G M x z n mb st th pt Y) (h120 : st.fl.length ≤ 120) (j : Nat) (hj : j < st.fl.length) (mg : zMg) (hmg : st.fl[j]? = some mg) (k : Int32) (hkl : k < 0 ∨ ¬ k < zsz mg.ck mg.chs) : Met l yR_inside (Cond.code yR_inside bR_inside 3 (some .int) :: zT) { frames := 1, cells := 0, slots := 0, locals := 24 } (zq G B M sz [.ref x, .int (nI j), .int k]) (va_Qi (fun (r : Int32) (u : zw_M × Nat) => r = -1 ∧ zRO G x z n mb sz M st 0 u) (zr_o G.1 zCl B) (zw_A B)) (0) (0) (zw_A B) := by
  refine Met.ofW (cc := bR_inside) (maxL := 3) (ret := (some .int)) (by decide) rfl ?_
  intro p e s m args below meth c s₁ B0 hml hv
  obtain ⟨rfl, hE, hH, hsz⟩ := hv
  have hx := B0.exec
  have hb := B0.bytes
  have hr := B0.returns
  have hlocks := B0.notSynchronized
  have hz : ∀ w ∈ zT, w.before _ s = true := fun w h => atoms_spec (ws := Cond.code yR_inside bR_inside 3 (some .int) :: zT) B0.pre w (List.mem_cons_of_mem _ h)
  have hown : s.vm.findClass RR = some m.cls := findClass_of_methodNamed B0.named
  have hK := hE.1
  have hl := lv_entry ([.ref x, .int (nI j), .int k]) (n := 3) (Nat.le_of_ble_eq_true rfl)
  rw [lg_entry_eq]
  generalize (lg_sl ([.ref x, .int (nI j), .int k]) ++ List.replicate (3 - (lg_sl ([.ref x, .int (nI j), .int k])).length) Slot.unset).toArray = ls at hl ⊢
  have hl : lv_has ls 3 [(0, .ref x), (1, .int (nI j)), (2, .int k)] := hl
  have hS : va_S (zw_A B) s.heap s.heap [] := va_S.rf
  have hin : meth.name = "inside" := (name_of_methodNamed B0.named B0.method).1
  obtain ⟨m1, m2, m3, m4, m5, m6⟩ := hR.msg j mg hmg
  have hrb := hR.rwb j (by omega)
  have hx0 := hR.obj
  have hrw := hR.rw
  have hsi := hR.si
  have hxz := hR.xz
  refine lv_aload_n hx hb dR_inside_0 rfl (lv_at hl 0 rfl) ?_
  refine lv_iconst (v := nI 0) hx hb dR_inside_1 (by decide) ?_
  refine zw_put (D := G.1) (ci := 2) (v := .int (nI 0)) (ty := .int) (C := RR) (T := TR) (N := 22) hx hb hz iR tR tR_ok nR hown hK hH hS hx0 rfl 0 (by decide) (hz _ zm_388) (fun _ h9 => h9) rfl (by decide +kernel) rfl rfl (Nat.le_of_ble_eq_true rfl) dR_inside_2 (fun H1 L1 hH hz1 hS => ?_)
  have hsz : H1.size = sz := hz1.trans hsz
  obtain ⟨M1, hM1⟩ : ∃ Mq, Mq = zw_u M x (.inr (2, zoR 0 n mb z st.fl.length st.se st.lo st.go st.pa pt)) := ⟨_, rfl⟩
  have hH : zw_H G.1 zCl B M1 H1 := by rw [hM1]; exact hH
  have hrw : M1 (z + 5) = some (.inl (G.2.1 0, 120, .inl (fun a9 => nI (Y.rw a9)))) := by rw [hM1, zw_un _ _ (by omega)]; exact hrw
  have hsi : M1 (z + 9) = some (.inl (G.2.1 0, 120, .inl Y.si)) := by rw [hM1, zw_un _ _ (by omega)]; exact hsi
  have hx0 : M1 x = some (.inr (2, zoR 0 n mb z st.fl.length st.se st.lo st.go st.pa pt)) := by rw [hM1]; exact zw_us _ _ _
  refine lv_aload_n hx hb dR_inside_5 rfl (lv_at hl 0 rfl) ?_
  refine lv_iload_n hx hb dR_inside_6 rfl (lv_at hl 1 rfl) ?_
  have hkx : ∀ a : Nat, a ≠ x → M1 a = M a := fun a h1 => by rw [hM1, zw_un _ _ h1]
  have hRn : zRR G M1 x z n mb st 0 pt Y := hR.cnt (st' := st) rfl rfl rfl rfl hx0 (fun a e h1 h2 => (hkx a h1).trans h2)
  refine zr_V (As := [.int (nI j)]) (rest := []) (q := (RR, TR, 22)) ⟨hx, hb, hml, hown, hz⟩ (kR_isMessage_in l G B M1 x z n mb st 0 pt Y hn hRn h120 j hj) (zt_V zm_491 zm_493 zs_20 zm_3 zm_494) rfl rfl rfl (show _ ∧ _ ∧ _ ∧ _ = some 1 from by decide +kernel) ⟨Nat.le_of_ble_eq_true rfl, Nat.le_of_ble_eq_true rfl⟩ zE_blind (zE_at hE hS) hH hK hx0 rfl rfl hl.1 rfl (Nat.le_of_ble_eq_true rfl) dR_inside_7 ⟨Nat.le_of_ble_eq_true rfl, Nat.le_of_ble_eq_true rfl⟩ ?_
  refine zc_eq0 (tgt := 44) hx hb dR_inside_10 (by decide) (by decide) (fun b26 => ?_) (fun b26 => ?_)
  · exact absurd b26 (by decide)
  · refine lv_iload_n hx hb dR_inside_13 rfl (lv_at hl 2 rfl) ?_
    refine lv_if_lt (tgt := 44) hx hb dR_inside_14 (by decide) (fun c2 => ?_) (fun c2 => ?_)
    · refine lv_iconst (v := (-1)) hx hb dR_inside_44 (by decide) ?_
      refine lv_goto (tgt := 65) hx hb dR_inside_45 (by decide) ?_
      have hkx : ∀ a : Nat, a ≠ x → M1 a = M a := fun a h1 => by rw [hM1, zw_un _ _ h1]
      exact W.iret (v := (-1)) hx hb hr (fun t ht hW => ⟨⟨(-1), (M1, sz), rfl, ⟨rfl, ⟨pt, Y, hR.cnt (st' := st) rfl rfl rfl rfl hx0 (fun a e h1 h2 => (hkx a h1).trans h2)⟩, fun q h1 h2 => hkx q h1, rfl⟩, by rw [ht]; exact hH, by rw [ht]; exact hsz⟩, hS.F ht⟩) hS.2.2 dR_inside_65
    · refine lv_iload_n hx hb dR_inside_17 rfl (lv_at hl 2 rfl) ?_
      refine lv_aload_n hx hb dR_inside_18 rfl (lv_at hl 0 rfl) ?_
      refine va_get (D := G.1) (ci := 2) (v := .ref (z + 9)) (C := RR) (T := TR) (N := 22) hx hb hz iR hown hK (hH.one hx0) 0 rfl rfl 13 (by decide) (hz _ zm_401) (fun _ h9 => h9) rfl dR_inside_19 ?_
      refine lv_aload_n hx hb dR_inside_22 rfl (lv_at hl 0 rfl) ?_
      refine va_get (D := G.1) (ci := 2) (v := .ref (z + 5)) (C := RR) (T := TR) (N := 22) hx hb hz iR hown hK (hH.one hx0) 0 rfl rfl 8 (by decide) (hz _ zm_396) (fun _ h9 => h9) rfl dR_inside_23 ?_
      refine lv_aload_n hx hb dR_inside_26 rfl (lv_at hl 0 rfl) ?_
      refine lv_iload_n hx hb dR_inside_27 rfl (lv_at hl 1 rfl) ?_
      refine zr_V (As := [.int (nI j)]) (rest := [.ref (z + 5), .ref (z + 9), .int k]) (q := (RR, TR, 22)) ⟨hx, hb, hml, hown, hz⟩ (kR_isMessage_in l G B M1 x z n mb st 0 pt Y hn hRn h120 j hj) (zt_V zm_491 zm_493 zs_20 zm_3 zm_494) rfl rfl rfl (show _ ∧ _ ∧ _ ∧ _ = some 1 from by decide +kernel) ⟨Nat.le_of_ble_eq_true rfl, Nat.le_of_ble_eq_true rfl⟩ zE_blind (zE_at hE hS) hH hK hx0 rfl rfl hl.1 rfl (Nat.le_of_ble_eq_true rfl) dR_inside_28 ⟨Nat.le_of_ble_eq_true rfl, Nat.le_of_ble_eq_true rfl⟩ ?_
      refine zc_eq0 (tgt := 38) hx hb dR_inside_31 (by decide) (by decide) (fun b27 => ?_) (fun b27 => ?_)
      · exact absurd b27 (by decide)
      · refine lv_iload_n hx hb dR_inside_34 rfl (lv_at hl 1 rfl) ?_
        refine lv_goto (tgt := 39) hx hb dR_inside_35 (by decide) ?_
        refine zw_iald hx hb hK hH 0 hrw rfl (j) rfl (by omega) (by decide) dR_inside_39 ?_
        refine zw_iald hx hb hK hH 0 hsi rfl (Y.rw j) rfl (hrb) (by decide) dR_inside_40 ?_
        refine lv_icmp_lt (tgt := 48) hx hb dR_inside_41 (by decide) (fun c3 => ?_) (fun c3 => ?_)
        · exact absurd (by rw [← m4]; exact c3) (hkl.resolve_left c2)
        · refine lv_iconst (v := (-1)) hx hb dR_inside_44 (by decide) ?_
          refine lv_goto (tgt := 65) hx hb dR_inside_45 (by decide) ?_
          have hkx : ∀ a : Nat, a ≠ x → M1 a = M a := fun a h1 => by rw [hM1, zw_un _ _ h1]
          exact W.iret (v := (-1)) hx hb hr (fun t ht hW => ⟨⟨(-1), (M1, sz), rfl, ⟨rfl, ⟨pt, Y, hR.cnt (st' := st) rfl rfl rfl rfl hx0 (fun a e h1 h2 => (hkx a h1).trans h2)⟩, fun q h1 h2 => hkx q h1, rfl⟩, by rw [ht]; exact hH, by rw [ht]; exact hsz⟩, hS.F ht⟩) hS.2.2 dR_inside_65

set_option maxHeartbeats 4000000 in
set_option maxRecDepth 100000 in
theorem kR_inside_out1 (l : Launch) (G : zG) (B : Nat) (M : zw_M) (sz : Nat) (x z n mb : Nat) (st : zSt) (th pt : Nat) (Y : zRX) (hn : n ≤ 8) (hR : zRR G M x z n mb st th pt Y) (a : Int32) (ha : a < 0 ∨ nI st.fl.length ≤ a) (k : Int32) : Met l yR_inside (Cond.code yR_inside bR_inside 3 (some .int) :: zT) { frames := 1, cells := 0, slots := 0, locals := 24 } (zq G B M sz [.ref x, .int a, .int k]) (va_Qi (fun (r : Int32) (u : zw_M × Nat) => r = -1 ∧ zRO G x z n mb sz M st 0 u) (zr_o G.1 zCl B) (zw_A B)) (0) (0) (zw_A B) := by
  refine Met.ofW (cc := bR_inside) (maxL := 3) (ret := (some .int)) (by decide) rfl ?_
  intro p e s m args below meth c s₁ B0 hml hv
  obtain ⟨rfl, hE, hH, hsz⟩ := hv
  have hx := B0.exec
  have hb := B0.bytes
  have hr := B0.returns
  have hlocks := B0.notSynchronized
  have hz : ∀ w ∈ zT, w.before _ s = true := fun w h => atoms_spec (ws := Cond.code yR_inside bR_inside 3 (some .int) :: zT) B0.pre w (List.mem_cons_of_mem _ h)
  have hown : s.vm.findClass RR = some m.cls := findClass_of_methodNamed B0.named
  have hK := hE.1
  have hl := lv_entry ([.ref x, .int a, .int k]) (n := 3) (Nat.le_of_ble_eq_true rfl)
  rw [lg_entry_eq]
  generalize (lg_sl ([.ref x, .int a, .int k]) ++ List.replicate (3 - (lg_sl ([.ref x, .int a, .int k])).length) Slot.unset).toArray = ls at hl ⊢
  have hl : lv_has ls 3 [(0, .ref x), (1, .int a), (2, .int k)] := hl
  have hS : va_S (zw_A B) s.heap s.heap [] := va_S.rf
  have hin : meth.name = "inside" := (name_of_methodNamed B0.named B0.method).1
  have hx0 := hR.obj
  have hxz := hR.xz
  refine lv_aload_n hx hb dR_inside_0 rfl (lv_at hl 0 rfl) ?_
  refine lv_iconst (v := nI 0) hx hb dR_inside_1 (by decide) ?_
  refine zw_put (D := G.1) (ci := 2) (v := .int (nI 0)) (ty := .int) (C := RR) (T := TR) (N := 22) hx hb hz iR tR tR_ok nR hown hK hH hS hx0 rfl 0 (by decide) (hz _ zm_388) (fun _ h9 => h9) rfl (by decide +kernel) rfl rfl (Nat.le_of_ble_eq_true rfl) dR_inside_2 (fun H1 L1 hH hz1 hS => ?_)
  have hsz : H1.size = sz := hz1.trans hsz
  obtain ⟨M1, hM1⟩ : ∃ Mq, Mq = zw_u M x (.inr (2, zoR 0 n mb z st.fl.length st.se st.lo st.go st.pa pt)) := ⟨_, rfl⟩
  have hH : zw_H G.1 zCl B M1 H1 := by rw [hM1]; exact hH
  have hx0 : M1 x = some (.inr (2, zoR 0 n mb z st.fl.length st.se st.lo st.go st.pa pt)) := by rw [hM1]; exact zw_us _ _ _
  refine lv_aload_n hx hb dR_inside_5 rfl (lv_at hl 0 rfl) ?_
  refine lv_iload_n hx hb dR_inside_6 rfl (lv_at hl 1 rfl) ?_
  have hkx : ∀ a : Nat, a ≠ x → M1 a = M a := fun a h1 => by rw [hM1, zw_un _ _ h1]
  have hRn : zRR G M1 x z n mb st 0 pt Y := hR.cnt (st' := st) rfl rfl rfl rfl hx0 (fun a e h1 h2 => (hkx a h1).trans h2)
  refine zr_V (As := [.int a]) (rest := []) (q := (RR, TR, 22)) ⟨hx, hb, hml, hown, hz⟩ (kR_isMessage_out l G B M1 x z n mb st 0 pt Y hn hRn a ha) (zt_V zm_491 zm_493 zs_20 zm_3 zm_494) rfl rfl rfl (show _ ∧ _ ∧ _ ∧ _ = some 1 from by decide +kernel) ⟨Nat.le_of_ble_eq_true rfl, Nat.le_of_ble_eq_true rfl⟩ zE_blind (zE_at hE hS) hH hK hx0 rfl rfl hl.1 rfl (Nat.le_of_ble_eq_true rfl) dR_inside_7 ⟨Nat.le_of_ble_eq_true rfl, Nat.le_of_ble_eq_true rfl⟩ ?_
  refine zc_eq0 (tgt := 44) hx hb dR_inside_10 (by decide) (by decide) (fun b28 => ?_) (fun b28 => ?_)
  · refine lv_iconst (v := (-1)) hx hb dR_inside_44 (by decide) ?_
    refine lv_goto (tgt := 65) hx hb dR_inside_45 (by decide) ?_
    have hkx : ∀ a : Nat, a ≠ x → M1 a = M a := fun a h1 => by rw [hM1, zw_un _ _ h1]
    exact W.iret (v := (-1)) hx hb hr (fun t ht hW => ⟨⟨(-1), (M1, sz), rfl, ⟨rfl, ⟨pt, Y, hR.cnt (st' := st) rfl rfl rfl rfl hx0 (fun a e h1 h2 => (hkx a h1).trans h2)⟩, fun q h1 h2 => hkx q h1, rfl⟩, by rw [ht]; exact hH, by rw [ht]; exact hsz⟩, hS.F ht⟩) hS.2.2 dR_inside_65
  · exact absurd b28 (by decide)

set_option maxHeartbeats 4000000 in
set_option maxRecDepth 100000 in
theorem kR_message_out1 (l : Launch) (G : zG) (B : Nat) (M : zw_M) (sz : Nat) (x z n mb : Nat) (st : zSt) (th pt : Nat) (Y : zRX) (hn : n ≤ 8) (hR : zRR G M x z n mb st th pt Y) (a : Int32) (ha : a < 0 ∨ nI st.fl.length ≤ a) (wa : Int32) : Met l yR_message (Cond.code yR_message bR_message 4 (some .int) :: zT) { frames := 1, cells := 0, slots := 0, locals := 24 } (zq G B M sz [.ref x, .int a, .int wa]) (va_Qi (fun (r : Int32) (u : zw_M × Nat) => r = 0 ∧ zRO G x z n mb sz M st 1 u) (zr_o G.1 zCl B) (zw_A B)) (0) (0) (zw_A B) := by
  refine Met.ofW (cc := bR_message) (maxL := 4) (ret := (some .int)) (by decide) rfl ?_
  intro p e s m args below meth c s₁ B0 hml hv
  obtain ⟨rfl, hE, hH, hsz⟩ := hv
  have hx := B0.exec
  have hb := B0.bytes
  have hr := B0.returns
  have hlocks := B0.notSynchronized
  have hz : ∀ w ∈ zT, w.before _ s = true := fun w h => atoms_spec (ws := Cond.code yR_message bR_message 4 (some .int) :: zT) B0.pre w (List.mem_cons_of_mem _ h)
  have hown : s.vm.findClass RR = some m.cls := findClass_of_methodNamed B0.named
  have hK := hE.1
  have hl := lv_entry ([.ref x, .int a, .int wa]) (n := 4) (Nat.le_of_ble_eq_true rfl)
  rw [lg_entry_eq]
  generalize (lg_sl ([.ref x, .int a, .int wa]) ++ List.replicate (4 - (lg_sl ([.ref x, .int a, .int wa])).length) Slot.unset).toArray = ls at hl ⊢
  have hl : lv_has ls 4 [(0, .ref x), (1, .int a), (2, .int wa)] := hl
  have hS : va_S (zw_A B) s.heap s.heap [] := va_S.rf
  have hin : meth.name = "message" := (name_of_methodNamed B0.named B0.method).1
  have hx0 := hR.obj
  have hxz := hR.xz
  refine lv_aload_n hx hb dR_message_0 rfl (lv_at hl 0 rfl) ?_
  refine lv_aload_n hx hb dR_message_1 rfl (lv_at hl 0 rfl) ?_
  refine lv_iload_n hx hb dR_message_2 rfl (lv_at hl 1 rfl) ?_
  refine zr_V (As := [.int a]) (rest := [.ref x]) (q := (RR, TR, 22)) ⟨hx, hb, hml, hown, hz⟩ (kR_isMessage_out l G B M x z n mb st th pt Y hn hR a ha) (zt_V zm_491 zm_493 zs_20 zm_3 zm_494) rfl rfl rfl (show _ ∧ _ ∧ _ ∧ _ = some 1 from by decide +kernel) ⟨Nat.le_of_ble_eq_true rfl, Nat.le_of_ble_eq_true rfl⟩ zE_blind (zE_at hE hS) hH hK hx0 rfl rfl hl.1 rfl (Nat.le_of_ble_eq_true rfl) dR_message_3 ⟨Nat.le_of_ble_eq_true rfl, Nat.le_of_ble_eq_true rfl⟩ ?_
  refine zc_eq0 (tgt := 22) hx hb dR_message_6 (by decide) (by decide) (fun b29 => ?_) (fun b29 => ?_)
  · refine lv_iconst (v := nI 1) hx hb dR_message_22 (by decide) ?_
    refine zw_put (D := G.1) (ci := 2) (v := .int (nI 1)) (ty := .int) (C := RR) (T := TR) (N := 22) hx hb hz iR tR tR_ok nR hown hK hH hS hx0 rfl 0 (by decide) (hz _ zm_388) (fun _ h9 => h9) rfl (by decide +kernel) rfl rfl (Nat.le_of_ble_eq_true rfl) dR_message_23 (fun H1 L1 hH hz1 hS => ?_)
    have hsz : H1.size = sz := hz1.trans hsz
    obtain ⟨M1, hM1⟩ : ∃ Mq, Mq = zw_u M x (.inr (2, zoR 1 n mb z st.fl.length st.se st.lo st.go st.pa pt)) := ⟨_, rfl⟩
    have hH : zw_H G.1 zCl B M1 H1 := by rw [hM1]; exact hH
    have hx0 : M1 x = some (.inr (2, zoR 1 n mb z st.fl.length st.se st.lo st.go st.pa pt)) := by rw [hM1]; exact zw_us _ _ _
    refine lv_aload_n hx hb dR_message_26 rfl (lv_at hl 0 rfl) ?_
    refine va_get (D := G.1) (ci := 2) (v := .int (nI 1)) (C := RR) (T := TR) (N := 22) hx hb hz iR hown hK (hH.one hx0) 0 rfl rfl 0 (by decide) (hz _ zm_388) (fun _ h9 => h9) rfl dR_message_27 ?_
    refine zc_le0 (tgt := 35) hx hb dR_message_30 (by decide) (by decide) (fun b30 => ?_) (fun b30 => ?_)
    · exact absurd b30 (by decide)
    · refine lv_iconst (v := nI 0) hx hb dR_message_33 (by decide) ?_
      have hkx : ∀ a : Nat, a ≠ x → M1 a = M a := fun a h1 => by rw [hM1, zw_un _ _ h1]
      exact W.iret (v := (nI 0)) hx hb hr (fun t ht hW => ⟨⟨(nI 0), (M1, sz), rfl, ⟨rfl, ⟨pt, Y, hR.cnt (st' := st) rfl rfl rfl rfl hx0 (fun a e h1 h2 => (hkx a h1).trans h2)⟩, fun q h1 h2 => hkx q h1, rfl⟩, by rw [ht]; exact hH, by rw [ht]; exact hsz⟩, hS.F ht⟩) hS.2.2 dR_message_34
  · exact absurd b29 (by decide)

set_option maxHeartbeats 4000000 in
set_option maxRecDepth 100000 in
theorem kR_message_out2 (l : Launch) (G : zG) (B : Nat) (M : zw_M) (sz : Nat) (x z n mb : Nat) (st : zSt) (th pt : Nat) (Y : zRX) (hn : n ≤ 8) (hR : zRR G M x z n mb st th pt Y) (h120 : st.fl.length ≤ 120) (j : Nat) (hj : j < st.fl.length) (wa : Int32) (hw : wa < 0 ∨ ¬ wa ≤ nI 4) : Met l yR_message (Cond.code yR_message bR_message 4 (some .int) :: zT) { frames := 1, cells := 0, slots := 0, locals := 24 } (zq G B M sz [.ref x, .int (nI j), .int wa]) (va_Qi (fun (r : Int32) (u : zw_M × Nat) => r = 0 ∧ zRO G x z n mb sz M st 1 u) (zr_o G.1 zCl B) (zw_A B)) (0) (0) (zw_A B) := by
  refine Met.ofW (cc := bR_message) (maxL := 4) (ret := (some .int)) (by decide) rfl ?_
  intro p e s m args below meth c s₁ B0 hml hv
  obtain ⟨rfl, hE, hH, hsz⟩ := hv
  have hx := B0.exec
  have hb := B0.bytes
  have hr := B0.returns
  have hlocks := B0.notSynchronized
  have hz : ∀ w ∈ zT, w.before _ s = true := fun w h => atoms_spec (ws := Cond.code yR_message bR_message 4 (some .int) :: zT) B0.pre w (List.mem_cons_of_mem _ h)
  have hown : s.vm.findClass RR = some m.cls := findClass_of_methodNamed B0.named
  have hK := hE.1
  have hl := lv_entry ([.ref x, .int (nI j), .int wa]) (n := 4) (Nat.le_of_ble_eq_true rfl)
  rw [lg_entry_eq]
  generalize (lg_sl ([.ref x, .int (nI j), .int wa]) ++ List.replicate (4 - (lg_sl ([.ref x, .int (nI j), .int wa])).length) Slot.unset).toArray = ls at hl ⊢
  have hl : lv_has ls 4 [(0, .ref x), (1, .int (nI j)), (2, .int wa)] := hl
  have hS : va_S (zw_A B) s.heap s.heap [] := va_S.rf
  have hin : meth.name = "message" := (name_of_methodNamed B0.named B0.method).1
  have hx0 := hR.obj
  have hxz := hR.xz
  refine lv_aload_n hx hb dR_message_0 rfl (lv_at hl 0 rfl) ?_
  refine lv_aload_n hx hb dR_message_1 rfl (lv_at hl 0 rfl) ?_
  refine lv_iload_n hx hb dR_message_2 rfl (lv_at hl 1 rfl) ?_
  refine zr_V (As := [.int (nI j)]) (rest := [.ref x]) (q := (RR, TR, 22)) ⟨hx, hb, hml, hown, hz⟩ (kR_isMessage_in l G B M x z n mb st th pt Y hn hR h120 j hj) (zt_V zm_491 zm_493 zs_20 zm_3 zm_494) rfl rfl rfl (show _ ∧ _ ∧ _ ∧ _ = some 1 from by decide +kernel) ⟨Nat.le_of_ble_eq_true rfl, Nat.le_of_ble_eq_true rfl⟩ zE_blind (zE_at hE hS) hH hK hx0 rfl rfl hl.1 rfl (Nat.le_of_ble_eq_true rfl) dR_message_3 ⟨Nat.le_of_ble_eq_true rfl, Nat.le_of_ble_eq_true rfl⟩ ?_
  refine zc_eq0 (tgt := 22) hx hb dR_message_6 (by decide) (by decide) (fun b31 => ?_) (fun b31 => ?_)
  · exact absurd b31 (by decide)
  · refine lv_iload_n hx hb dR_message_9 rfl (lv_at hl 2 rfl) ?_
    refine lv_if_lt (tgt := 22) hx hb dR_message_10 (by decide) (fun c2 => ?_) (fun c2 => ?_)
    · refine lv_iconst (v := nI 1) hx hb dR_message_22 (by decide) ?_
      refine zw_put (D := G.1) (ci := 2) (v := .int (nI 1)) (ty := .int) (C := RR) (T := TR) (N := 22) hx hb hz iR tR tR_ok nR hown hK hH hS hx0 rfl 0 (by decide) (hz _ zm_388) (fun _ h9 => h9) rfl (by decide +kernel) rfl rfl (Nat.le_of_ble_eq_true rfl) dR_message_23 (fun H1 L1 hH hz1 hS => ?_)
      have hsz : H1.size = sz := hz1.trans hsz
      obtain ⟨M1, hM1⟩ : ∃ Mq, Mq = zw_u M x (.inr (2, zoR 1 n mb z st.fl.length st.se st.lo st.go st.pa pt)) := ⟨_, rfl⟩
      have hH : zw_H G.1 zCl B M1 H1 := by rw [hM1]; exact hH
      have hx0 : M1 x = some (.inr (2, zoR 1 n mb z st.fl.length st.se st.lo st.go st.pa pt)) := by rw [hM1]; exact zw_us _ _ _
      refine lv_aload_n hx hb dR_message_26 rfl (lv_at hl 0 rfl) ?_
      refine va_get (D := G.1) (ci := 2) (v := .int (nI 1)) (C := RR) (T := TR) (N := 22) hx hb hz iR hown hK (hH.one hx0) 0 rfl rfl 0 (by decide) (hz _ zm_388) (fun _ h9 => h9) rfl dR_message_27 ?_
      refine zc_le0 (tgt := 35) hx hb dR_message_30 (by decide) (by decide) (fun b32 => ?_) (fun b32 => ?_)
      · exact absurd b32 (by decide)
      · refine lv_iconst (v := nI 0) hx hb dR_message_33 (by decide) ?_
        have hkx : ∀ a : Nat, a ≠ x → M1 a = M a := fun a h1 => by rw [hM1, zw_un _ _ h1]
        exact W.iret (v := (nI 0)) hx hb hr (fun t ht hW => ⟨⟨(nI 0), (M1, sz), rfl, ⟨rfl, ⟨pt, Y, hR.cnt (st' := st) rfl rfl rfl rfl hx0 (fun a e h1 h2 => (hkx a h1).trans h2)⟩, fun q h1 h2 => hkx q h1, rfl⟩, by rw [ht]; exact hH, by rw [ht]; exact hsz⟩, hS.F ht⟩) hS.2.2 dR_message_34
    · refine lv_iload_n hx hb dR_message_13 rfl (lv_at hl 2 rfl) ?_
      refine lv_iconst (v := nI 4) hx hb dR_message_14 (by decide) ?_
      refine lv_icmp_gt (tgt := 22) hx hb dR_message_15 (by decide) (fun c3 => ?_) (fun c3 => ?_)
      · refine lv_iconst (v := nI 1) hx hb dR_message_22 (by decide) ?_
        refine zw_put (D := G.1) (ci := 2) (v := .int (nI 1)) (ty := .int) (C := RR) (T := TR) (N := 22) hx hb hz iR tR tR_ok nR hown hK hH hS hx0 rfl 0 (by decide) (hz _ zm_388) (fun _ h9 => h9) rfl (by decide +kernel) rfl rfl (Nat.le_of_ble_eq_true rfl) dR_message_23 (fun H1 L1 hH hz1 hS => ?_)
        have hsz : H1.size = sz := hz1.trans hsz
        obtain ⟨M1, hM1⟩ : ∃ Mq, Mq = zw_u M x (.inr (2, zoR 1 n mb z st.fl.length st.se st.lo st.go st.pa pt)) := ⟨_, rfl⟩
        have hH : zw_H G.1 zCl B M1 H1 := by rw [hM1]; exact hH
        have hx0 : M1 x = some (.inr (2, zoR 1 n mb z st.fl.length st.se st.lo st.go st.pa pt)) := by rw [hM1]; exact zw_us _ _ _
        refine lv_aload_n hx hb dR_message_26 rfl (lv_at hl 0 rfl) ?_
        refine va_get (D := G.1) (ci := 2) (v := .int (nI 1)) (C := RR) (T := TR) (N := 22) hx hb hz iR hown hK (hH.one hx0) 0 rfl rfl 0 (by decide) (hz _ zm_388) (fun _ h9 => h9) rfl dR_message_27 ?_
        refine zc_le0 (tgt := 35) hx hb dR_message_30 (by decide) (by decide) (fun b33 => ?_) (fun b33 => ?_)
        · exact absurd b33 (by decide)
        · refine lv_iconst (v := nI 0) hx hb dR_message_33 (by decide) ?_
          have hkx : ∀ a : Nat, a ≠ x → M1 a = M a := fun a h1 => by rw [hM1, zw_un _ _ h1]
          exact W.iret (v := (nI 0)) hx hb hr (fun t ht hW => ⟨⟨(nI 0), (M1, sz), rfl, ⟨rfl, ⟨pt, Y, hR.cnt (st' := st) rfl rfl rfl rfl hx0 (fun a e h1 h2 => (hkx a h1).trans h2)⟩, fun q h1 h2 => hkx q h1, rfl⟩, by rw [ht]; exact hH, by rw [ht]; exact hsz⟩, hS.F ht⟩) hS.2.2 dR_message_34
      · exact absurd c3 (fun h => (hw.resolve_left c2) (Int32.not_lt.mp h))

set_option maxHeartbeats 4000000 in
set_option maxRecDepth 100000 in
theorem kR_message_0 (l : Launch) (G : zG) (B : Nat) (M : zw_M) (sz : Nat) (x z n mb : Nat) (st : zSt) (th pt : Nat) (Y : zRX) (hn : n ≤ 8) (hR : zRR G M x z n mb st th pt Y) (hok : zOK n st) (h120 : st.fl.length ≤ 120) (j : Nat) (hj : j < st.fl.length) (mg : zMg) (hmg : st.fl[j]? = some mg) : Met l yR_message (Cond.code yR_message bR_message 4 (some .int) :: zT) { frames := 2, cells := 0, slots := 0, locals := 50 } (zq G B M sz [.ref x, .int (nI j), .int (nI 0)]) (va_Qi (fun (r : Int32) (u : zw_M × Nat) => r = nI mg.num ∧ zRO G x z n mb sz M st 0 u) (zr_o G.1 zCl B) (zw_A B)) (0) (0) (zw_A B) := by
  refine Met.ofW (cc := bR_message) (maxL := 4) (ret := (some .int)) (by decide) rfl ?_
  intro p e s m args below meth c s₁ B0 hml hv
  obtain ⟨rfl, hE, hH, hsz⟩ := hv
  have hx := B0.exec
  have hb := B0.bytes
  have hr := B0.returns
  have hlocks := B0.notSynchronized
  have hz : ∀ w ∈ zT, w.before _ s = true := fun w h => atoms_spec (ws := Cond.code yR_message bR_message 4 (some .int) :: zT) B0.pre w (List.mem_cons_of_mem _ h)
  have hown : s.vm.findClass RR = some m.cls := findClass_of_methodNamed B0.named
  have hK := hE.1
  have hl := lv_entry ([.ref x, .int (nI j), .int (nI 0)]) (n := 4) (Nat.le_of_ble_eq_true rfl)
  rw [lg_entry_eq]
  generalize (lg_sl ([.ref x, .int (nI j), .int (nI 0)]) ++ List.replicate (4 - (lg_sl ([.ref x, .int (nI j), .int (nI 0)])).length) Slot.unset).toArray = ls at hl ⊢
  have hl : lv_has ls 4 [(0, .ref x), (1, .int (nI j)), (2, .int (nI 0))] := hl
  have hS : va_S (zw_A B) s.heap s.heap [] := va_S.rf
  have hin : meth.name = "message" := (name_of_methodNamed B0.named B0.method).1
  obtain ⟨m1, m2, m3, m4, m5, m6⟩ := hR.msg j mg hmg
  have hrb := hR.rwb j (by omega)
  have hx0 := hR.obj
  have hrw := hR.rw
  have hnu := hR.nu
  have hfr := hR.fr
  have hto := hR.to
  have hsi := hR.si
  have hxz := hR.xz
  refine lv_aload_n hx hb dR_message_0 rfl (lv_at hl 0 rfl) ?_
  refine lv_aload_n hx hb dR_message_1 rfl (lv_at hl 0 rfl) ?_
  refine lv_iload_n hx hb dR_message_2 rfl (lv_at hl 1 rfl) ?_
  refine zr_V (As := [.int (nI j)]) (rest := [.ref x]) (q := (RR, TR, 22)) ⟨hx, hb, hml, hown, hz⟩ (kR_isMessage_in l G B M x z n mb st th pt Y hn hR h120 j hj) (zt_V zm_491 zm_493 zs_20 zm_3 zm_494) rfl rfl rfl (show _ ∧ _ ∧ _ ∧ _ = some 1 from by decide +kernel) ⟨Nat.le_of_ble_eq_true rfl, Nat.le_of_ble_eq_true rfl⟩ zE_blind (zE_at hE hS) hH hK hx0 rfl rfl hl.1 rfl (Nat.le_of_ble_eq_true rfl) dR_message_3 ⟨Nat.le_of_ble_eq_true rfl, Nat.le_of_ble_eq_true rfl⟩ ?_
  refine zc_eq0 (tgt := 22) hx hb dR_message_6 (by decide) (by decide) (fun b34 => ?_) (fun b34 => ?_)
  · exact absurd b34 (by decide)
  · refine lv_iload_n hx hb dR_message_9 rfl (lv_at hl 2 rfl) ?_
    refine lv_if_lt (tgt := 22) hx hb dR_message_10 (by decide) (fun c2 => ?_) (fun c2 => ?_)
    · exact absurd c2 (nI_pos (by decide))
    · refine lv_iload_n hx hb dR_message_13 rfl (lv_at hl 2 rfl) ?_
      refine lv_iconst (v := nI 4) hx hb dR_message_14 (by decide) ?_
      refine zc_gt (tgt := 22) hx hb dR_message_15 (by decide) (by decide) (by decide) (fun c3 => ?_) (fun c3 => ?_)
      · exact absurd c3 (by decide)
      · refine lv_iconst (v := nI 0) hx hb dR_message_18 (by decide) ?_
        refine lv_goto (tgt := 23) hx hb dR_message_19 (by decide) ?_
        refine zw_put (D := G.1) (ci := 2) (v := .int (nI 0)) (ty := .int) (C := RR) (T := TR) (N := 22) hx hb hz iR tR tR_ok nR hown hK hH hS hx0 rfl 0 (by decide) (hz _ zm_388) (fun _ h9 => h9) rfl (by decide +kernel) rfl rfl (Nat.le_of_ble_eq_true rfl) dR_message_23 (fun H1 L1 hH hz1 hS => ?_)
        have hsz : H1.size = sz := hz1.trans hsz
        obtain ⟨M1, hM1⟩ : ∃ Mq, Mq = zw_u M x (.inr (2, zoR 0 n mb z st.fl.length st.se st.lo st.go st.pa pt)) := ⟨_, rfl⟩
        have hH : zw_H G.1 zCl B M1 H1 := by rw [hM1]; exact hH
        have hrw : M1 (z + 5) = some (.inl (G.2.1 0, 120, .inl (fun a9 => nI (Y.rw a9)))) := by rw [hM1, zw_un _ _ (by omega)]; exact hrw
        have hnu : M1 (z + 6) = some (.inl (G.2.1 0, 120, .inl Y.nu)) := by rw [hM1, zw_un _ _ (by omega)]; exact hnu
        have hfr : M1 (z + 7) = some (.inl (G.2.1 0, 120, .inl Y.fr)) := by rw [hM1, zw_un _ _ (by omega)]; exact hfr
        have hto : M1 (z + 8) = some (.inl (G.2.1 0, 120, .inl Y.to)) := by rw [hM1, zw_un _ _ (by omega)]; exact hto
        have hsi : M1 (z + 9) = some (.inl (G.2.1 0, 120, .inl Y.si)) := by rw [hM1, zw_un _ _ (by omega)]; exact hsi
        have hx0 : M1 x = some (.inr (2, zoR 0 n mb z st.fl.length st.se st.lo st.go st.pa pt)) := by rw [hM1]; exact zw_us _ _ _
        refine lv_aload_n hx hb dR_message_26 rfl (lv_at hl 0 rfl) ?_
        refine va_get (D := G.1) (ci := 2) (v := .int (nI 0)) (C := RR) (T := TR) (N := 22) hx hb hz iR hown hK (hH.one hx0) 0 rfl rfl 0 (by decide) (hz _ zm_388) (fun _ h9 => h9) rfl dR_message_27 ?_
        refine zc_le0 (tgt := 35) hx hb dR_message_30 (by decide) (by decide) (fun b35 => ?_) (fun b35 => ?_)
        · refine lv_aload_n hx hb dR_message_35 rfl (lv_at hl 0 rfl) ?_
          refine va_get (D := G.1) (ci := 2) (v := .ref (z + 5)) (C := RR) (T := TR) (N := 22) hx hb hz iR hown hK (hH.one hx0) 0 rfl rfl 8 (by decide) (hz _ zm_396) (fun _ h9 => h9) rfl dR_message_36 ?_
          refine lv_iload_n hx hb dR_message_39 rfl (lv_at hl 1 rfl) ?_
          refine zw_iald hx hb hK hH 0 hrw rfl (j) rfl (by omega) (by decide) dR_message_40 ?_
          refine lv_istore_n (lv' := [(3, .int (nI (Y.rw j))), (0, .ref x), (1, .int (nI j)), (2, .int (nI 0))]) hx hb dR_message_41 rfl hl (by decide) rfl (fun ls hl => ?_)
          refine lv_iload_n hx hb dR_message_42 rfl (lv_at hl 3 rfl) ?_
          refine zc_ne0 (tgt := 55) hx hb dR_message_43 (by decide) (by decide) (fun b36 => ?_) (fun b36 => ?_)
          · exact absurd b36 (by decide)
          · refine lv_aload_n hx hb dR_message_46 rfl (lv_at hl 1 rfl) ?_
            refine va_get (D := G.1) (ci := 2) (v := .ref (z + 6)) (C := RR) (T := TR) (N := 22) hx hb hz iR hown hK (hH.one hx0) 0 rfl rfl 10 (by decide) (hz _ zm_398) (fun _ h9 => h9) rfl dR_message_47 ?_
            refine lv_iload_n hx hb dR_message_50 rfl (lv_at hl 0 rfl) ?_
            refine zw_iald hx hb hK hH 0 hnu rfl (Y.rw j) rfl (hrb) (by decide) dR_message_51 ?_
            refine zw_ti (m1) ?_
            refine lv_goto (tgt := 102) hx hb dR_message_52 (by decide) ?_
            have hkx : ∀ a : Nat, a ≠ x → M1 a = M a := fun a h1 => by rw [hM1, zw_un _ _ h1]
            exact W.iret (v := (nI mg.num)) hx hb hr (fun t ht hW => ⟨⟨(nI mg.num), (M1, sz), rfl, ⟨rfl, ⟨pt, Y, hR.cnt (st' := st) rfl rfl rfl rfl hx0 (fun a e h1 h2 => (hkx a h1).trans h2)⟩, fun q h1 h2 => hkx q h1, rfl⟩, by rw [ht]; exact hH, by rw [ht]; exact hsz⟩, hS.F ht⟩) hS.2.2 dR_message_102
        · exact absurd b35 (by decide)

set_option maxHeartbeats 4000000 in
set_option maxRecDepth 100000 in
theorem kR_message_1 (l : Launch) (G : zG) (B : Nat) (M : zw_M) (sz : Nat) (x z n mb : Nat) (st : zSt) (th pt : Nat) (Y : zRX) (hn : n ≤ 8) (hR : zRR G M x z n mb st th pt Y) (hok : zOK n st) (h120 : st.fl.length ≤ 120) (j : Nat) (hj : j < st.fl.length) (mg : zMg) (hmg : st.fl[j]? = some mg) : Met l yR_message (Cond.code yR_message bR_message 4 (some .int) :: zT) { frames := 2, cells := 0, slots := 0, locals := 50 } (zq G B M sz [.ref x, .int (nI j), .int (nI 1)]) (va_Qi (fun (r : Int32) (u : zw_M × Nat) => r = nI mg.snd ∧ zRO G x z n mb sz M st 0 u) (zr_o G.1 zCl B) (zw_A B)) (0) (0) (zw_A B) := by
  refine Met.ofW (cc := bR_message) (maxL := 4) (ret := (some .int)) (by decide) rfl ?_
  intro p e s m args below meth c s₁ B0 hml hv
  obtain ⟨rfl, hE, hH, hsz⟩ := hv
  have hx := B0.exec
  have hb := B0.bytes
  have hr := B0.returns
  have hlocks := B0.notSynchronized
  have hz : ∀ w ∈ zT, w.before _ s = true := fun w h => atoms_spec (ws := Cond.code yR_message bR_message 4 (some .int) :: zT) B0.pre w (List.mem_cons_of_mem _ h)
  have hown : s.vm.findClass RR = some m.cls := findClass_of_methodNamed B0.named
  have hK := hE.1
  have hl := lv_entry ([.ref x, .int (nI j), .int (nI 1)]) (n := 4) (Nat.le_of_ble_eq_true rfl)
  rw [lg_entry_eq]
  generalize (lg_sl ([.ref x, .int (nI j), .int (nI 1)]) ++ List.replicate (4 - (lg_sl ([.ref x, .int (nI j), .int (nI 1)])).length) Slot.unset).toArray = ls at hl ⊢
  have hl : lv_has ls 4 [(0, .ref x), (1, .int (nI j)), (2, .int (nI 1))] := hl
  have hS : va_S (zw_A B) s.heap s.heap [] := va_S.rf
  have hin : meth.name = "message" := (name_of_methodNamed B0.named B0.method).1
  obtain ⟨m1, m2, m3, m4, m5, m6⟩ := hR.msg j mg hmg
  have hrb := hR.rwb j (by omega)
  have hx0 := hR.obj
  have hrw := hR.rw
  have hnu := hR.nu
  have hfr := hR.fr
  have hto := hR.to
  have hsi := hR.si
  have hxz := hR.xz
  refine lv_aload_n hx hb dR_message_0 rfl (lv_at hl 0 rfl) ?_
  refine lv_aload_n hx hb dR_message_1 rfl (lv_at hl 0 rfl) ?_
  refine lv_iload_n hx hb dR_message_2 rfl (lv_at hl 1 rfl) ?_
  refine zr_V (As := [.int (nI j)]) (rest := [.ref x]) (q := (RR, TR, 22)) ⟨hx, hb, hml, hown, hz⟩ (kR_isMessage_in l G B M x z n mb st th pt Y hn hR h120 j hj) (zt_V zm_491 zm_493 zs_20 zm_3 zm_494) rfl rfl rfl (show _ ∧ _ ∧ _ ∧ _ = some 1 from by decide +kernel) ⟨Nat.le_of_ble_eq_true rfl, Nat.le_of_ble_eq_true rfl⟩ zE_blind (zE_at hE hS) hH hK hx0 rfl rfl hl.1 rfl (Nat.le_of_ble_eq_true rfl) dR_message_3 ⟨Nat.le_of_ble_eq_true rfl, Nat.le_of_ble_eq_true rfl⟩ ?_
  refine zc_eq0 (tgt := 22) hx hb dR_message_6 (by decide) (by decide) (fun b37 => ?_) (fun b37 => ?_)
  · exact absurd b37 (by decide)
  · refine lv_iload_n hx hb dR_message_9 rfl (lv_at hl 2 rfl) ?_
    refine lv_if_lt (tgt := 22) hx hb dR_message_10 (by decide) (fun c2 => ?_) (fun c2 => ?_)
    · exact absurd c2 (nI_pos (by decide))
    · refine lv_iload_n hx hb dR_message_13 rfl (lv_at hl 2 rfl) ?_
      refine lv_iconst (v := nI 4) hx hb dR_message_14 (by decide) ?_
      refine zc_gt (tgt := 22) hx hb dR_message_15 (by decide) (by decide) (by decide) (fun c3 => ?_) (fun c3 => ?_)
      · exact absurd c3 (by decide)
      · refine lv_iconst (v := nI 0) hx hb dR_message_18 (by decide) ?_
        refine lv_goto (tgt := 23) hx hb dR_message_19 (by decide) ?_
        refine zw_put (D := G.1) (ci := 2) (v := .int (nI 0)) (ty := .int) (C := RR) (T := TR) (N := 22) hx hb hz iR tR tR_ok nR hown hK hH hS hx0 rfl 0 (by decide) (hz _ zm_388) (fun _ h9 => h9) rfl (by decide +kernel) rfl rfl (Nat.le_of_ble_eq_true rfl) dR_message_23 (fun H1 L1 hH hz1 hS => ?_)
        have hsz : H1.size = sz := hz1.trans hsz
        obtain ⟨M1, hM1⟩ : ∃ Mq, Mq = zw_u M x (.inr (2, zoR 0 n mb z st.fl.length st.se st.lo st.go st.pa pt)) := ⟨_, rfl⟩
        have hH : zw_H G.1 zCl B M1 H1 := by rw [hM1]; exact hH
        have hrw : M1 (z + 5) = some (.inl (G.2.1 0, 120, .inl (fun a9 => nI (Y.rw a9)))) := by rw [hM1, zw_un _ _ (by omega)]; exact hrw
        have hnu : M1 (z + 6) = some (.inl (G.2.1 0, 120, .inl Y.nu)) := by rw [hM1, zw_un _ _ (by omega)]; exact hnu
        have hfr : M1 (z + 7) = some (.inl (G.2.1 0, 120, .inl Y.fr)) := by rw [hM1, zw_un _ _ (by omega)]; exact hfr
        have hto : M1 (z + 8) = some (.inl (G.2.1 0, 120, .inl Y.to)) := by rw [hM1, zw_un _ _ (by omega)]; exact hto
        have hsi : M1 (z + 9) = some (.inl (G.2.1 0, 120, .inl Y.si)) := by rw [hM1, zw_un _ _ (by omega)]; exact hsi
        have hx0 : M1 x = some (.inr (2, zoR 0 n mb z st.fl.length st.se st.lo st.go st.pa pt)) := by rw [hM1]; exact zw_us _ _ _
        refine lv_aload_n hx hb dR_message_26 rfl (lv_at hl 0 rfl) ?_
        refine va_get (D := G.1) (ci := 2) (v := .int (nI 0)) (C := RR) (T := TR) (N := 22) hx hb hz iR hown hK (hH.one hx0) 0 rfl rfl 0 (by decide) (hz _ zm_388) (fun _ h9 => h9) rfl dR_message_27 ?_
        refine zc_le0 (tgt := 35) hx hb dR_message_30 (by decide) (by decide) (fun b38 => ?_) (fun b38 => ?_)
        · refine lv_aload_n hx hb dR_message_35 rfl (lv_at hl 0 rfl) ?_
          refine va_get (D := G.1) (ci := 2) (v := .ref (z + 5)) (C := RR) (T := TR) (N := 22) hx hb hz iR hown hK (hH.one hx0) 0 rfl rfl 8 (by decide) (hz _ zm_396) (fun _ h9 => h9) rfl dR_message_36 ?_
          refine lv_iload_n hx hb dR_message_39 rfl (lv_at hl 1 rfl) ?_
          refine zw_iald hx hb hK hH 0 hrw rfl (j) rfl (by omega) (by decide) dR_message_40 ?_
          refine lv_istore_n (lv' := [(3, .int (nI (Y.rw j))), (0, .ref x), (1, .int (nI j)), (2, .int (nI 1))]) hx hb dR_message_41 rfl hl (by decide) rfl (fun ls hl => ?_)
          refine lv_iload_n hx hb dR_message_42 rfl (lv_at hl 3 rfl) ?_
          refine zc_ne0 (tgt := 55) hx hb dR_message_43 (by decide) (by decide) (fun b39 => ?_) (fun b39 => ?_)
          · refine lv_iload_n hx hb dR_message_55 rfl (lv_at hl 3 rfl) ?_
            refine lv_iconst (v := nI 1) hx hb dR_message_56 (by decide) ?_
            refine zc_ne (tgt := 69) hx hb dR_message_57 (by decide) (by decide) (by decide) (fun d1 => ?_) (fun d1 => ?_)
            · exact absurd rfl d1
            · refine lv_aload_n hx hb dR_message_60 rfl (lv_at hl 1 rfl) ?_
              refine va_get (D := G.1) (ci := 2) (v := .ref (z + 7)) (C := RR) (T := TR) (N := 22) hx hb hz iR hown hK (hH.one hx0) 0 rfl rfl 11 (by decide) (hz _ zm_399) (fun _ h9 => h9) rfl dR_message_61 ?_
              refine lv_iload_n hx hb dR_message_64 rfl (lv_at hl 0 rfl) ?_
              refine zw_iald hx hb hK hH 0 hfr rfl (Y.rw j) rfl (hrb) (by decide) dR_message_65 ?_
              refine zw_ti (m2) ?_
              refine lv_goto (tgt := 102) hx hb dR_message_66 (by decide) ?_
              have hkx : ∀ a : Nat, a ≠ x → M1 a = M a := fun a h1 => by rw [hM1, zw_un _ _ h1]
              exact W.iret (v := (nI mg.snd)) hx hb hr (fun t ht hW => ⟨⟨(nI mg.snd), (M1, sz), rfl, ⟨rfl, ⟨pt, Y, hR.cnt (st' := st) rfl rfl rfl rfl hx0 (fun a e h1 h2 => (hkx a h1).trans h2)⟩, fun q h1 h2 => hkx q h1, rfl⟩, by rw [ht]; exact hH, by rw [ht]; exact hsz⟩, hS.F ht⟩) hS.2.2 dR_message_102
          · exact absurd b39 (by decide)
        · exact absurd b38 (by decide)

set_option maxHeartbeats 4000000 in
set_option maxRecDepth 100000 in
theorem kR_message_2 (l : Launch) (G : zG) (B : Nat) (M : zw_M) (sz : Nat) (x z n mb : Nat) (st : zSt) (th pt : Nat) (Y : zRX) (hn : n ≤ 8) (hR : zRR G M x z n mb st th pt Y) (hok : zOK n st) (h120 : st.fl.length ≤ 120) (j : Nat) (hj : j < st.fl.length) (mg : zMg) (hmg : st.fl[j]? = some mg) : Met l yR_message (Cond.code yR_message bR_message 4 (some .int) :: zT) { frames := 2, cells := 0, slots := 0, locals := 50 } (zq G B M sz [.ref x, .int (nI j), .int (nI 2)]) (va_Qi (fun (r : Int32) (u : zw_M × Nat) => r = nI mg.rcv ∧ zRO G x z n mb sz M st 0 u) (zr_o G.1 zCl B) (zw_A B)) (0) (0) (zw_A B) := by
  refine Met.ofW (cc := bR_message) (maxL := 4) (ret := (some .int)) (by decide) rfl ?_
  intro p e s m args below meth c s₁ B0 hml hv
  obtain ⟨rfl, hE, hH, hsz⟩ := hv
  have hx := B0.exec
  have hb := B0.bytes
  have hr := B0.returns
  have hlocks := B0.notSynchronized
  have hz : ∀ w ∈ zT, w.before _ s = true := fun w h => atoms_spec (ws := Cond.code yR_message bR_message 4 (some .int) :: zT) B0.pre w (List.mem_cons_of_mem _ h)
  have hown : s.vm.findClass RR = some m.cls := findClass_of_methodNamed B0.named
  have hK := hE.1
  have hl := lv_entry ([.ref x, .int (nI j), .int (nI 2)]) (n := 4) (Nat.le_of_ble_eq_true rfl)
  rw [lg_entry_eq]
  generalize (lg_sl ([.ref x, .int (nI j), .int (nI 2)]) ++ List.replicate (4 - (lg_sl ([.ref x, .int (nI j), .int (nI 2)])).length) Slot.unset).toArray = ls at hl ⊢
  have hl : lv_has ls 4 [(0, .ref x), (1, .int (nI j)), (2, .int (nI 2))] := hl
  have hS : va_S (zw_A B) s.heap s.heap [] := va_S.rf
  have hin : meth.name = "message" := (name_of_methodNamed B0.named B0.method).1
  obtain ⟨m1, m2, m3, m4, m5, m6⟩ := hR.msg j mg hmg
  have hrb := hR.rwb j (by omega)
  have hx0 := hR.obj
  have hrw := hR.rw
  have hnu := hR.nu
  have hfr := hR.fr
  have hto := hR.to
  have hsi := hR.si
  have hxz := hR.xz
  refine lv_aload_n hx hb dR_message_0 rfl (lv_at hl 0 rfl) ?_
  refine lv_aload_n hx hb dR_message_1 rfl (lv_at hl 0 rfl) ?_
  refine lv_iload_n hx hb dR_message_2 rfl (lv_at hl 1 rfl) ?_
  refine zr_V (As := [.int (nI j)]) (rest := [.ref x]) (q := (RR, TR, 22)) ⟨hx, hb, hml, hown, hz⟩ (kR_isMessage_in l G B M x z n mb st th pt Y hn hR h120 j hj) (zt_V zm_491 zm_493 zs_20 zm_3 zm_494) rfl rfl rfl (show _ ∧ _ ∧ _ ∧ _ = some 1 from by decide +kernel) ⟨Nat.le_of_ble_eq_true rfl, Nat.le_of_ble_eq_true rfl⟩ zE_blind (zE_at hE hS) hH hK hx0 rfl rfl hl.1 rfl (Nat.le_of_ble_eq_true rfl) dR_message_3 ⟨Nat.le_of_ble_eq_true rfl, Nat.le_of_ble_eq_true rfl⟩ ?_
  refine zc_eq0 (tgt := 22) hx hb dR_message_6 (by decide) (by decide) (fun b40 => ?_) (fun b40 => ?_)
  · exact absurd b40 (by decide)
  · refine lv_iload_n hx hb dR_message_9 rfl (lv_at hl 2 rfl) ?_
    refine lv_if_lt (tgt := 22) hx hb dR_message_10 (by decide) (fun c2 => ?_) (fun c2 => ?_)
    · exact absurd c2 (nI_pos (by decide))
    · refine lv_iload_n hx hb dR_message_13 rfl (lv_at hl 2 rfl) ?_
      refine lv_iconst (v := nI 4) hx hb dR_message_14 (by decide) ?_
      refine zc_gt (tgt := 22) hx hb dR_message_15 (by decide) (by decide) (by decide) (fun c3 => ?_) (fun c3 => ?_)
      · exact absurd c3 (by decide)
      · refine lv_iconst (v := nI 0) hx hb dR_message_18 (by decide) ?_
        refine lv_goto (tgt := 23) hx hb dR_message_19 (by decide) ?_
        refine zw_put (D := G.1) (ci := 2) (v := .int (nI 0)) (ty := .int) (C := RR) (T := TR) (N := 22) hx hb hz iR tR tR_ok nR hown hK hH hS hx0 rfl 0 (by decide) (hz _ zm_388) (fun _ h9 => h9) rfl (by decide +kernel) rfl rfl (Nat.le_of_ble_eq_true rfl) dR_message_23 (fun H1 L1 hH hz1 hS => ?_)
        have hsz : H1.size = sz := hz1.trans hsz
        obtain ⟨M1, hM1⟩ : ∃ Mq, Mq = zw_u M x (.inr (2, zoR 0 n mb z st.fl.length st.se st.lo st.go st.pa pt)) := ⟨_, rfl⟩
        have hH : zw_H G.1 zCl B M1 H1 := by rw [hM1]; exact hH
        have hrw : M1 (z + 5) = some (.inl (G.2.1 0, 120, .inl (fun a9 => nI (Y.rw a9)))) := by rw [hM1, zw_un _ _ (by omega)]; exact hrw
        have hnu : M1 (z + 6) = some (.inl (G.2.1 0, 120, .inl Y.nu)) := by rw [hM1, zw_un _ _ (by omega)]; exact hnu
        have hfr : M1 (z + 7) = some (.inl (G.2.1 0, 120, .inl Y.fr)) := by rw [hM1, zw_un _ _ (by omega)]; exact hfr
        have hto : M1 (z + 8) = some (.inl (G.2.1 0, 120, .inl Y.to)) := by rw [hM1, zw_un _ _ (by omega)]; exact hto
        have hsi : M1 (z + 9) = some (.inl (G.2.1 0, 120, .inl Y.si)) := by rw [hM1, zw_un _ _ (by omega)]; exact hsi
        have hx0 : M1 x = some (.inr (2, zoR 0 n mb z st.fl.length st.se st.lo st.go st.pa pt)) := by rw [hM1]; exact zw_us _ _ _
        refine lv_aload_n hx hb dR_message_26 rfl (lv_at hl 0 rfl) ?_
        refine va_get (D := G.1) (ci := 2) (v := .int (nI 0)) (C := RR) (T := TR) (N := 22) hx hb hz iR hown hK (hH.one hx0) 0 rfl rfl 0 (by decide) (hz _ zm_388) (fun _ h9 => h9) rfl dR_message_27 ?_
        refine zc_le0 (tgt := 35) hx hb dR_message_30 (by decide) (by decide) (fun b41 => ?_) (fun b41 => ?_)
        · refine lv_aload_n hx hb dR_message_35 rfl (lv_at hl 0 rfl) ?_
          refine va_get (D := G.1) (ci := 2) (v := .ref (z + 5)) (C := RR) (T := TR) (N := 22) hx hb hz iR hown hK (hH.one hx0) 0 rfl rfl 8 (by decide) (hz _ zm_396) (fun _ h9 => h9) rfl dR_message_36 ?_
          refine lv_iload_n hx hb dR_message_39 rfl (lv_at hl 1 rfl) ?_
          refine zw_iald hx hb hK hH 0 hrw rfl (j) rfl (by omega) (by decide) dR_message_40 ?_
          refine lv_istore_n (lv' := [(3, .int (nI (Y.rw j))), (0, .ref x), (1, .int (nI j)), (2, .int (nI 2))]) hx hb dR_message_41 rfl hl (by decide) rfl (fun ls hl => ?_)
          refine lv_iload_n hx hb dR_message_42 rfl (lv_at hl 3 rfl) ?_
          refine zc_ne0 (tgt := 55) hx hb dR_message_43 (by decide) (by decide) (fun b42 => ?_) (fun b42 => ?_)
          · refine lv_iload_n hx hb dR_message_55 rfl (lv_at hl 3 rfl) ?_
            refine lv_iconst (v := nI 1) hx hb dR_message_56 (by decide) ?_
            refine zc_ne (tgt := 69) hx hb dR_message_57 (by decide) (by decide) (by decide) (fun d1 => ?_) (fun d1 => ?_)
            · refine lv_iload_n hx hb dR_message_69 rfl (lv_at hl 3 rfl) ?_
              refine lv_iconst (v := nI 2) hx hb dR_message_70 (by decide) ?_
              refine zc_ne (tgt := 83) hx hb dR_message_71 (by decide) (by decide) (by decide) (fun d2 => ?_) (fun d2 => ?_)
              · exact absurd rfl d2
              · refine lv_aload_n hx hb dR_message_74 rfl (lv_at hl 1 rfl) ?_
                refine va_get (D := G.1) (ci := 2) (v := .ref (z + 8)) (C := RR) (T := TR) (N := 22) hx hb hz iR hown hK (hH.one hx0) 0 rfl rfl 12 (by decide) (hz _ zm_400) (fun _ h9 => h9) rfl dR_message_75 ?_
                refine lv_iload_n hx hb dR_message_78 rfl (lv_at hl 0 rfl) ?_
                refine zw_iald hx hb hK hH 0 hto rfl (Y.rw j) rfl (hrb) (by decide) dR_message_79 ?_
                refine zw_ti (m3) ?_
                refine lv_goto (tgt := 102) hx hb dR_message_80 (by decide) ?_
                have hkx : ∀ a : Nat, a ≠ x → M1 a = M a := fun a h1 => by rw [hM1, zw_un _ _ h1]
                exact W.iret (v := (nI mg.rcv)) hx hb hr (fun t ht hW => ⟨⟨(nI mg.rcv), (M1, sz), rfl, ⟨rfl, ⟨pt, Y, hR.cnt (st' := st) rfl rfl rfl rfl hx0 (fun a e h1 h2 => (hkx a h1).trans h2)⟩, fun q h1 h2 => hkx q h1, rfl⟩, by rw [ht]; exact hH, by rw [ht]; exact hsz⟩, hS.F ht⟩) hS.2.2 dR_message_102
            · exact absurd d1 (by decide)
          · exact absurd b42 (by decide)
        · exact absurd b41 (by decide)

set_option maxHeartbeats 4000000 in
set_option maxRecDepth 100000 in
theorem kR_message_3 (l : Launch) (G : zG) (B : Nat) (M : zw_M) (sz : Nat) (x z n mb : Nat) (st : zSt) (th pt : Nat) (Y : zRX) (hn : n ≤ 8) (hR : zRR G M x z n mb st th pt Y) (hok : zOK n st) (h120 : st.fl.length ≤ 120) (j : Nat) (hj : j < st.fl.length) (mg : zMg) (hmg : st.fl[j]? = some mg) : Met l yR_message (Cond.code yR_message bR_message 4 (some .int) :: zT) { frames := 2, cells := 0, slots := 0, locals := 50 } (zq G B M sz [.ref x, .int (nI j), .int (nI 3)]) (va_Qi (fun (r : Int32) (u : zw_M × Nat) => r = nI mg.byt ∧ zRO G x z n mb sz M st 0 u) (zr_o G.1 zCl B) (zw_A B)) (0) (0) (zw_A B) := by
  refine Met.ofW (cc := bR_message) (maxL := 4) (ret := (some .int)) (by decide) rfl ?_
  intro p e s m args below meth c s₁ B0 hml hv
  obtain ⟨rfl, hE, hH, hsz⟩ := hv
  have hx := B0.exec
  have hb := B0.bytes
  have hr := B0.returns
  have hlocks := B0.notSynchronized
  have hz : ∀ w ∈ zT, w.before _ s = true := fun w h => atoms_spec (ws := Cond.code yR_message bR_message 4 (some .int) :: zT) B0.pre w (List.mem_cons_of_mem _ h)
  have hown : s.vm.findClass RR = some m.cls := findClass_of_methodNamed B0.named
  have hK := hE.1
  have hl := lv_entry ([.ref x, .int (nI j), .int (nI 3)]) (n := 4) (Nat.le_of_ble_eq_true rfl)
  rw [lg_entry_eq]
  generalize (lg_sl ([.ref x, .int (nI j), .int (nI 3)]) ++ List.replicate (4 - (lg_sl ([.ref x, .int (nI j), .int (nI 3)])).length) Slot.unset).toArray = ls at hl ⊢
  have hl : lv_has ls 4 [(0, .ref x), (1, .int (nI j)), (2, .int (nI 3))] := hl
  have hS : va_S (zw_A B) s.heap s.heap [] := va_S.rf
  have hin : meth.name = "message" := (name_of_methodNamed B0.named B0.method).1
  obtain ⟨m1, m2, m3, m4, m5, m6⟩ := hR.msg j mg hmg
  have hrb := hR.rwb j (by omega)
  have hx0 := hR.obj
  have hrw := hR.rw
  have hnu := hR.nu
  have hfr := hR.fr
  have hto := hR.to
  have hsi := hR.si
  have hxz := hR.xz
  refine lv_aload_n hx hb dR_message_0 rfl (lv_at hl 0 rfl) ?_
  refine lv_aload_n hx hb dR_message_1 rfl (lv_at hl 0 rfl) ?_
  refine lv_iload_n hx hb dR_message_2 rfl (lv_at hl 1 rfl) ?_
  refine zr_V (As := [.int (nI j)]) (rest := [.ref x]) (q := (RR, TR, 22)) ⟨hx, hb, hml, hown, hz⟩ (kR_isMessage_in l G B M x z n mb st th pt Y hn hR h120 j hj) (zt_V zm_491 zm_493 zs_20 zm_3 zm_494) rfl rfl rfl (show _ ∧ _ ∧ _ ∧ _ = some 1 from by decide +kernel) ⟨Nat.le_of_ble_eq_true rfl, Nat.le_of_ble_eq_true rfl⟩ zE_blind (zE_at hE hS) hH hK hx0 rfl rfl hl.1 rfl (Nat.le_of_ble_eq_true rfl) dR_message_3 ⟨Nat.le_of_ble_eq_true rfl, Nat.le_of_ble_eq_true rfl⟩ ?_
  refine zc_eq0 (tgt := 22) hx hb dR_message_6 (by decide) (by decide) (fun b43 => ?_) (fun b43 => ?_)
  · exact absurd b43 (by decide)
  · refine lv_iload_n hx hb dR_message_9 rfl (lv_at hl 2 rfl) ?_
    refine lv_if_lt (tgt := 22) hx hb dR_message_10 (by decide) (fun c2 => ?_) (fun c2 => ?_)
    · exact absurd c2 (nI_pos (by decide))
    · refine lv_iload_n hx hb dR_message_13 rfl (lv_at hl 2 rfl) ?_
      refine lv_iconst (v := nI 4) hx hb dR_message_14 (by decide) ?_
      refine zc_gt (tgt := 22) hx hb dR_message_15 (by decide) (by decide) (by decide) (fun c3 => ?_) (fun c3 => ?_)
      · exact absurd c3 (by decide)
      · refine lv_iconst (v := nI 0) hx hb dR_message_18 (by decide) ?_
        refine lv_goto (tgt := 23) hx hb dR_message_19 (by decide) ?_
        refine zw_put (D := G.1) (ci := 2) (v := .int (nI 0)) (ty := .int) (C := RR) (T := TR) (N := 22) hx hb hz iR tR tR_ok nR hown hK hH hS hx0 rfl 0 (by decide) (hz _ zm_388) (fun _ h9 => h9) rfl (by decide +kernel) rfl rfl (Nat.le_of_ble_eq_true rfl) dR_message_23 (fun H1 L1 hH hz1 hS => ?_)
        have hsz : H1.size = sz := hz1.trans hsz
        obtain ⟨M1, hM1⟩ : ∃ Mq, Mq = zw_u M x (.inr (2, zoR 0 n mb z st.fl.length st.se st.lo st.go st.pa pt)) := ⟨_, rfl⟩
        have hH : zw_H G.1 zCl B M1 H1 := by rw [hM1]; exact hH
        have hrw : M1 (z + 5) = some (.inl (G.2.1 0, 120, .inl (fun a9 => nI (Y.rw a9)))) := by rw [hM1, zw_un _ _ (by omega)]; exact hrw
        have hnu : M1 (z + 6) = some (.inl (G.2.1 0, 120, .inl Y.nu)) := by rw [hM1, zw_un _ _ (by omega)]; exact hnu
        have hfr : M1 (z + 7) = some (.inl (G.2.1 0, 120, .inl Y.fr)) := by rw [hM1, zw_un _ _ (by omega)]; exact hfr
        have hto : M1 (z + 8) = some (.inl (G.2.1 0, 120, .inl Y.to)) := by rw [hM1, zw_un _ _ (by omega)]; exact hto
        have hsi : M1 (z + 9) = some (.inl (G.2.1 0, 120, .inl Y.si)) := by rw [hM1, zw_un _ _ (by omega)]; exact hsi
        have hx0 : M1 x = some (.inr (2, zoR 0 n mb z st.fl.length st.se st.lo st.go st.pa pt)) := by rw [hM1]; exact zw_us _ _ _
        refine lv_aload_n hx hb dR_message_26 rfl (lv_at hl 0 rfl) ?_
        refine va_get (D := G.1) (ci := 2) (v := .int (nI 0)) (C := RR) (T := TR) (N := 22) hx hb hz iR hown hK (hH.one hx0) 0 rfl rfl 0 (by decide) (hz _ zm_388) (fun _ h9 => h9) rfl dR_message_27 ?_
        refine zc_le0 (tgt := 35) hx hb dR_message_30 (by decide) (by decide) (fun b44 => ?_) (fun b44 => ?_)
        · refine lv_aload_n hx hb dR_message_35 rfl (lv_at hl 0 rfl) ?_
          refine va_get (D := G.1) (ci := 2) (v := .ref (z + 5)) (C := RR) (T := TR) (N := 22) hx hb hz iR hown hK (hH.one hx0) 0 rfl rfl 8 (by decide) (hz _ zm_396) (fun _ h9 => h9) rfl dR_message_36 ?_
          refine lv_iload_n hx hb dR_message_39 rfl (lv_at hl 1 rfl) ?_
          refine zw_iald hx hb hK hH 0 hrw rfl (j) rfl (by omega) (by decide) dR_message_40 ?_
          refine lv_istore_n (lv' := [(3, .int (nI (Y.rw j))), (0, .ref x), (1, .int (nI j)), (2, .int (nI 3))]) hx hb dR_message_41 rfl hl (by decide) rfl (fun ls hl => ?_)
          refine lv_iload_n hx hb dR_message_42 rfl (lv_at hl 3 rfl) ?_
          refine zc_ne0 (tgt := 55) hx hb dR_message_43 (by decide) (by decide) (fun b45 => ?_) (fun b45 => ?_)
          · refine lv_iload_n hx hb dR_message_55 rfl (lv_at hl 3 rfl) ?_
            refine lv_iconst (v := nI 1) hx hb dR_message_56 (by decide) ?_
            refine zc_ne (tgt := 69) hx hb dR_message_57 (by decide) (by decide) (by decide) (fun d1 => ?_) (fun d1 => ?_)
            · refine lv_iload_n hx hb dR_message_69 rfl (lv_at hl 3 rfl) ?_
              refine lv_iconst (v := nI 2) hx hb dR_message_70 (by decide) ?_
              refine zc_ne (tgt := 83) hx hb dR_message_71 (by decide) (by decide) (by decide) (fun d2 => ?_) (fun d2 => ?_)
              · refine lv_iload_n hx hb dR_message_83 rfl (lv_at hl 3 rfl) ?_
                refine lv_iconst (v := nI 3) hx hb dR_message_84 (by decide) ?_
                refine zc_ne (tgt := 96) hx hb dR_message_85 (by decide) (by decide) (by decide) (fun d3 => ?_) (fun d3 => ?_)
                · exact absurd rfl d3
                · refine lv_aload_n hx hb dR_message_88 rfl (lv_at hl 1 rfl) ?_
                  refine lv_iload_n hx hb dR_message_89 rfl (lv_at hl 0 rfl) ?_
                  have hkx : ∀ a : Nat, a ≠ x → M1 a = M a := fun a h1 => by rw [hM1, zw_un _ _ h1]
                  have hRn : zRR G M1 x z n mb st 0 pt Y := hR.cnt (st' := st) rfl rfl rfl rfl hx0 (fun a e h1 h2 => (hkx a h1).trans h2)
                  refine zr_V (As := [.int (nI (Y.rw j))]) (rest := []) (q := (RR, TR, 22)) ⟨hx, hb, hml, hown, hz⟩ (kR_bytesOf l G B M1 x z n mb st 0 pt Y hn hRn hok j mg hmg) (zt_V zm_528 zm_530 zs_25 zm_3 zm_531) rfl rfl rfl (show _ ∧ _ ∧ _ ∧ _ = some 1 from by decide +kernel) ⟨Nat.le_of_ble_eq_true rfl, Nat.le_of_ble_eq_true rfl⟩ zE_blind (zE_at hE hS) hH hK hx0 rfl rfl hl.1 rfl (Nat.le_of_ble_eq_true rfl) dR_message_90 ⟨Nat.le_of_ble_eq_true rfl, Nat.le_of_ble_eq_true rfl⟩ ?_
                  refine lv_goto (tgt := 102) hx hb dR_message_93 (by decide) ?_
                  have hkx : ∀ a : Nat, a ≠ x → M1 a = M a := fun a h1 => by rw [hM1, zw_un _ _ h1]
                  exact W.iret (v := (nI mg.byt)) hx hb hr (fun t ht hW => ⟨⟨(nI mg.byt), (M1, sz), rfl, ⟨rfl, ⟨pt, Y, hR.cnt (st' := st) rfl rfl rfl rfl hx0 (fun a e h1 h2 => (hkx a h1).trans h2)⟩, fun q h1 h2 => hkx q h1, rfl⟩, by rw [ht]; exact hH, by rw [ht]; exact hsz⟩, hS.F ht⟩) hS.2.2 dR_message_102
              · exact absurd d2 (by decide)
            · exact absurd d1 (by decide)
          · exact absurd b45 (by decide)
        · exact absurd b44 (by decide)

set_option maxHeartbeats 4000000 in
set_option maxRecDepth 100000 in
theorem kR_message_4 (l : Launch) (G : zG) (B : Nat) (M : zw_M) (sz : Nat) (x z n mb : Nat) (st : zSt) (th pt : Nat) (Y : zRX) (hn : n ≤ 8) (hR : zRR G M x z n mb st th pt Y) (hok : zOK n st) (h120 : st.fl.length ≤ 120) (j : Nat) (hj : j < st.fl.length) (mg : zMg) (hmg : st.fl[j]? = some mg) : Met l yR_message (Cond.code yR_message bR_message 4 (some .int) :: zT) { frames := 2, cells := 0, slots := 0, locals := 50 } (zq G B M sz [.ref x, .int (nI j), .int (nI 4)]) (va_Qi (fun (r : Int32) (u : zw_M × Nat) => r = zsz mg.ck mg.chs ∧ zRO G x z n mb sz M st 0 u) (zr_o G.1 zCl B) (zw_A B)) (0) (0) (zw_A B) := by
  refine Met.ofW (cc := bR_message) (maxL := 4) (ret := (some .int)) (by decide) rfl ?_
  intro p e s m args below meth c s₁ B0 hml hv
  obtain ⟨rfl, hE, hH, hsz⟩ := hv
  have hx := B0.exec
  have hb := B0.bytes
  have hr := B0.returns
  have hlocks := B0.notSynchronized
  have hz : ∀ w ∈ zT, w.before _ s = true := fun w h => atoms_spec (ws := Cond.code yR_message bR_message 4 (some .int) :: zT) B0.pre w (List.mem_cons_of_mem _ h)
  have hown : s.vm.findClass RR = some m.cls := findClass_of_methodNamed B0.named
  have hK := hE.1
  have hl := lv_entry ([.ref x, .int (nI j), .int (nI 4)]) (n := 4) (Nat.le_of_ble_eq_true rfl)
  rw [lg_entry_eq]
  generalize (lg_sl ([.ref x, .int (nI j), .int (nI 4)]) ++ List.replicate (4 - (lg_sl ([.ref x, .int (nI j), .int (nI 4)])).length) Slot.unset).toArray = ls at hl ⊢
  have hl : lv_has ls 4 [(0, .ref x), (1, .int (nI j)), (2, .int (nI 4))] := hl
  have hS : va_S (zw_A B) s.heap s.heap [] := va_S.rf
  have hin : meth.name = "message" := (name_of_methodNamed B0.named B0.method).1
  obtain ⟨m1, m2, m3, m4, m5, m6⟩ := hR.msg j mg hmg
  have hrb := hR.rwb j (by omega)
  have hx0 := hR.obj
  have hrw := hR.rw
  have hnu := hR.nu
  have hfr := hR.fr
  have hto := hR.to
  have hsi := hR.si
  have hxz := hR.xz
  refine lv_aload_n hx hb dR_message_0 rfl (lv_at hl 0 rfl) ?_
  refine lv_aload_n hx hb dR_message_1 rfl (lv_at hl 0 rfl) ?_
  refine lv_iload_n hx hb dR_message_2 rfl (lv_at hl 1 rfl) ?_
  refine zr_V (As := [.int (nI j)]) (rest := [.ref x]) (q := (RR, TR, 22)) ⟨hx, hb, hml, hown, hz⟩ (kR_isMessage_in l G B M x z n mb st th pt Y hn hR h120 j hj) (zt_V zm_491 zm_493 zs_20 zm_3 zm_494) rfl rfl rfl (show _ ∧ _ ∧ _ ∧ _ = some 1 from by decide +kernel) ⟨Nat.le_of_ble_eq_true rfl, Nat.le_of_ble_eq_true rfl⟩ zE_blind (zE_at hE hS) hH hK hx0 rfl rfl hl.1 rfl (Nat.le_of_ble_eq_true rfl) dR_message_3 ⟨Nat.le_of_ble_eq_true rfl, Nat.le_of_ble_eq_true rfl⟩ ?_
  refine zc_eq0 (tgt := 22) hx hb dR_message_6 (by decide) (by decide) (fun b46 => ?_) (fun b46 => ?_)
  · exact absurd b46 (by decide)
  · refine lv_iload_n hx hb dR_message_9 rfl (lv_at hl 2 rfl) ?_
    refine lv_if_lt (tgt := 22) hx hb dR_message_10 (by decide) (fun c2 => ?_) (fun c2 => ?_)
    · exact absurd c2 (nI_pos (by decide))
    · refine lv_iload_n hx hb dR_message_13 rfl (lv_at hl 2 rfl) ?_
      refine lv_iconst (v := nI 4) hx hb dR_message_14 (by decide) ?_
      refine zc_gt (tgt := 22) hx hb dR_message_15 (by decide) (by decide) (by decide) (fun c3 => ?_) (fun c3 => ?_)
      · exact absurd c3 (by decide)
      · refine lv_iconst (v := nI 0) hx hb dR_message_18 (by decide) ?_
        refine lv_goto (tgt := 23) hx hb dR_message_19 (by decide) ?_
        refine zw_put (D := G.1) (ci := 2) (v := .int (nI 0)) (ty := .int) (C := RR) (T := TR) (N := 22) hx hb hz iR tR tR_ok nR hown hK hH hS hx0 rfl 0 (by decide) (hz _ zm_388) (fun _ h9 => h9) rfl (by decide +kernel) rfl rfl (Nat.le_of_ble_eq_true rfl) dR_message_23 (fun H1 L1 hH hz1 hS => ?_)
        have hsz : H1.size = sz := hz1.trans hsz
        obtain ⟨M1, hM1⟩ : ∃ Mq, Mq = zw_u M x (.inr (2, zoR 0 n mb z st.fl.length st.se st.lo st.go st.pa pt)) := ⟨_, rfl⟩
        have hH : zw_H G.1 zCl B M1 H1 := by rw [hM1]; exact hH
        have hrw : M1 (z + 5) = some (.inl (G.2.1 0, 120, .inl (fun a9 => nI (Y.rw a9)))) := by rw [hM1, zw_un _ _ (by omega)]; exact hrw
        have hnu : M1 (z + 6) = some (.inl (G.2.1 0, 120, .inl Y.nu)) := by rw [hM1, zw_un _ _ (by omega)]; exact hnu
        have hfr : M1 (z + 7) = some (.inl (G.2.1 0, 120, .inl Y.fr)) := by rw [hM1, zw_un _ _ (by omega)]; exact hfr
        have hto : M1 (z + 8) = some (.inl (G.2.1 0, 120, .inl Y.to)) := by rw [hM1, zw_un _ _ (by omega)]; exact hto
        have hsi : M1 (z + 9) = some (.inl (G.2.1 0, 120, .inl Y.si)) := by rw [hM1, zw_un _ _ (by omega)]; exact hsi
        have hx0 : M1 x = some (.inr (2, zoR 0 n mb z st.fl.length st.se st.lo st.go st.pa pt)) := by rw [hM1]; exact zw_us _ _ _
        refine lv_aload_n hx hb dR_message_26 rfl (lv_at hl 0 rfl) ?_
        refine va_get (D := G.1) (ci := 2) (v := .int (nI 0)) (C := RR) (T := TR) (N := 22) hx hb hz iR hown hK (hH.one hx0) 0 rfl rfl 0 (by decide) (hz _ zm_388) (fun _ h9 => h9) rfl dR_message_27 ?_
        refine zc_le0 (tgt := 35) hx hb dR_message_30 (by decide) (by decide) (fun b47 => ?_) (fun b47 => ?_)
        · refine lv_aload_n hx hb dR_message_35 rfl (lv_at hl 0 rfl) ?_
          refine va_get (D := G.1) (ci := 2) (v := .ref (z + 5)) (C := RR) (T := TR) (N := 22) hx hb hz iR hown hK (hH.one hx0) 0 rfl rfl 8 (by decide) (hz _ zm_396) (fun _ h9 => h9) rfl dR_message_36 ?_
          refine lv_iload_n hx hb dR_message_39 rfl (lv_at hl 1 rfl) ?_
          refine zw_iald hx hb hK hH 0 hrw rfl (j) rfl (by omega) (by decide) dR_message_40 ?_
          refine lv_istore_n (lv' := [(3, .int (nI (Y.rw j))), (0, .ref x), (1, .int (nI j)), (2, .int (nI 4))]) hx hb dR_message_41 rfl hl (by decide) rfl (fun ls hl => ?_)
          refine lv_iload_n hx hb dR_message_42 rfl (lv_at hl 3 rfl) ?_
          refine zc_ne0 (tgt := 55) hx hb dR_message_43 (by decide) (by decide) (fun b48 => ?_) (fun b48 => ?_)
          · refine lv_iload_n hx hb dR_message_55 rfl (lv_at hl 3 rfl) ?_
            refine lv_iconst (v := nI 1) hx hb dR_message_56 (by decide) ?_
            refine zc_ne (tgt := 69) hx hb dR_message_57 (by decide) (by decide) (by decide) (fun d1 => ?_) (fun d1 => ?_)
            · refine lv_iload_n hx hb dR_message_69 rfl (lv_at hl 3 rfl) ?_
              refine lv_iconst (v := nI 2) hx hb dR_message_70 (by decide) ?_
              refine zc_ne (tgt := 83) hx hb dR_message_71 (by decide) (by decide) (by decide) (fun d2 => ?_) (fun d2 => ?_)
              · refine lv_iload_n hx hb dR_message_83 rfl (lv_at hl 3 rfl) ?_
                refine lv_iconst (v := nI 3) hx hb dR_message_84 (by decide) ?_
                refine zc_ne (tgt := 96) hx hb dR_message_85 (by decide) (by decide) (by decide) (fun d3 => ?_) (fun d3 => ?_)
                · refine lv_aload_n hx hb dR_message_96 rfl (lv_at hl 1 rfl) ?_
                  refine va_get (D := G.1) (ci := 2) (v := .ref (z + 9)) (C := RR) (T := TR) (N := 22) hx hb hz iR hown hK (hH.one hx0) 0 rfl rfl 13 (by decide) (hz _ zm_401) (fun _ h9 => h9) rfl dR_message_97 ?_
                  refine lv_iload_n hx hb dR_message_100 rfl (lv_at hl 0 rfl) ?_
                  refine zw_iald hx hb hK hH 0 hsi rfl (Y.rw j) rfl (hrb) (by decide) dR_message_101 ?_
                  refine zw_ti (m4) ?_
                  have hkx : ∀ a : Nat, a ≠ x → M1 a = M a := fun a h1 => by rw [hM1, zw_un _ _ h1]
                  exact W.iret (v := (zsz mg.ck mg.chs)) hx hb hr (fun t ht hW => ⟨⟨(zsz mg.ck mg.chs), (M1, sz), rfl, ⟨rfl, ⟨pt, Y, hR.cnt (st' := st) rfl rfl rfl rfl hx0 (fun a e h1 h2 => (hkx a h1).trans h2)⟩, fun q h1 h2 => hkx q h1, rfl⟩, by rw [ht]; exact hH, by rw [ht]; exact hsz⟩, hS.F ht⟩) hS.2.2 dR_message_102
                · exact absurd d3 (by decide)
              · exact absurd d2 (by decide)
            · exact absurd d1 (by decide)
          · exact absurd b48 (by decide)
        · exact absurd b47 (by decide)

