/-! THE REFERENCE: what it does -/
/-- the bytes of the message in place i -/
def zby (st : zSt) (i : Nat) : Nat := match st.fl[i]? with
  | some mg => mg.byt
  | none => 0
theorem zby_at {st : zSt} {i : Nat} {mg : zMg} (h : st.fl[i]? = some mg) : zby st i = mg.byt := by unfold zby; rw [h]
theorem zR_tot {n : Nat} {st : zSt} (h : zOK n st) : zsum (fun a => (st.wt a).length) n ≤ n * 60 := zsum_le (fun i hi => (h.2.2.1 i hi).2)
set_option maxHeartbeats 4000000 in
set_option maxRecDepth 100000 in
theorem kR_look_0 (l : Launch) (G : zG) (B : Nat) (M : zw_M) (sz : Nat) (x z n mb : Nat) (st : zSt) (th pt : Nat) (Y : zRX) (hn : n ≤ 8) (hR : zRR G M x z n mb st th pt Y) (hok : zOK n st) : Met l yR_look (Cond.code yR_look bR_look 5 (some .int) :: zT) { frames := 2, cells := 0, slots := 0, locals := 50 } (zq G B M sz [.ref x, .int (nI 0)]) (va_Qi (fun (r : Int32) (u : zw_M × Nat) => r = nI n ∧ zRO G x z n mb sz M st 0 u) (zr_o G.1 zCl B) (zw_A B)) (0) (0) (zw_A B) := by
  refine Met.ofW (cc := bR_look) (maxL := 5) (ret := (some .int)) (by decide) rfl ?_
  intro p e s m args below meth c s₁ B0 hml hv
  obtain ⟨rfl, hE, hH, hsz⟩ := hv
  have hx := B0.exec
  have hb := B0.bytes
  have hr := B0.returns
  have hlocks := B0.notSynchronized
  have hz : ∀ w ∈ zT, w.before _ s = true := fun w h => atoms_spec (ws := Cond.code yR_look bR_look 5 (some .int) :: zT) B0.pre w (List.mem_cons_of_mem _ h)
  have hown : s.vm.findClass RR = some m.cls := findClass_of_methodNamed B0.named
  have hK := hE.1
  have hl := lv_entry ([.ref x, .int (nI 0)]) (n := 5) (Nat.le_of_ble_eq_true rfl)
  rw [lg_entry_eq]
  generalize (lg_sl ([.ref x, .int (nI 0)]) ++ List.replicate (5 - (lg_sl ([.ref x, .int (nI 0)])).length) Slot.unset).toArray = ls at hl ⊢
  have hl : lv_has ls 5 [(0, .ref x), (1, .int (nI 0))] := hl
  have hS : va_S (zw_A B) s.heap s.heap [] := va_S.rf
  have hin : meth.name = "look" := (name_of_methodNamed B0.named B0.method).1
  have hT := zR_tot hok
  have h120 := hok.fl
  have hx0 := hR.obj
  have hmn := hR.mn
  have hrw := hR.rw
  have hxz := hR.xz
  refine lv_aload_n hx hb dR_look_0 rfl (lv_at hl 0 rfl) ?_
  refine lv_iconst (v := nI 0) hx hb dR_look_1 (by decide) ?_
  refine zw_put (D := G.1) (ci := 2) (v := .int (nI 0)) (ty := .int) (C := RR) (T := TR) (N := 22) hx hb hz iR tR tR_ok nR hown hK hH hS hx0 rfl 0 (by decide) (hz _ zm_388) (fun _ h9 => h9) rfl (by decide +kernel) rfl rfl (Nat.le_of_ble_eq_true rfl) dR_look_2 (fun H1 L1 hH hz1 hS => ?_)
  have hsz : H1.size = sz := hz1.trans hsz
  obtain ⟨M1, hM1⟩ : ∃ Mq, Mq = zw_u M x (.inr (2, zoR 0 n mb z st.fl.length st.se st.lo st.go st.pa pt)) := ⟨_, rfl⟩
  have hH : zw_H G.1 zCl B M1 H1 := by rw [hM1]; exact hH
  have hmn : M1 (z + 4) = some (.inl (G.2.1 0, 8, .inl (fun a9 => nI ((st.lg a9).length)))) := by rw [hM1, zw_un _ _ (by omega)]; exact hmn
  have hrw : M1 (z + 5) = some (.inl (G.2.1 0, 120, .inl (fun a9 => nI (Y.rw a9)))) := by rw [hM1, zw_un _ _ (by omega)]; exact hrw
  have hx0 : M1 x = some (.inr (2, zoR 0 n mb z st.fl.length st.se st.lo st.go st.pa pt)) := by rw [hM1]; exact zw_us _ _ _
  have hkx : ∀ a : Nat, a ≠ x → M1 a = M a := fun a h1 => by rw [hM1, zw_un _ _ h1]
  have hRn : zRR G M1 x z n mb st 0 pt Y := hR.cnt (st' := st) rfl rfl rfl rfl hx0 (fun a e h1 h2 => (hkx a h1).trans h2)
  refine lv_iconst (v := nI 0) hx hb dR_look_5 (by decide) ?_
  refine lv_istore_n (lv' := [(2, .int (nI 0)), (0, .ref x), (1, .int (nI 0))]) hx hb dR_look_6 rfl hl (by decide) rfl (fun ls hl => ?_)
  refine lv_iconst (v := nI 0) hx hb dR_look_7 (by decide) ?_
  refine lv_istore_n (lv' := [(3, .int (nI 0)), (2, .int (nI 0)), (0, .ref x), (1, .int (nI 0))]) hx hb dR_look_8 rfl hl (by decide) rfl (fun ls hl => ?_)
  refine zl_upH (Wg := fun ls H locs => W p l e _ s m _ below meth c H locs 0 0 _ (F0 m 9 ls [])) (fun i ls H locs => lv_has ls 5 [(0, .ref x), (1, .int (nI 0)), (2, .int (nI (zsum (fun r => if (st.lg r).length = zsum (fun a => (st.wt a).length) n then 1 else 0) i))), (3, .int (nI i))] ∧ ∃ Mq : zw_M, zw_H G.1 zCl B Mq H ∧ va_S (zw_A B) s.heap H locs ∧ Mq = M1 ∧ H.size = sz) n ?_ (i := 0) (by omega) ⟨lv_sub hl [2, 3, 1, 0] rfl, M1, hH, hS, ⟨rfl, hsz⟩⟩
  intro i hi ls Hi Li ⟨hl, Mi, hH, hS, hI⟩ ih
  have hl : lv_has ls 5 [(0, .ref x), (1, .int (nI 0)), (2, .int (nI (zsum (fun r => if (st.lg r).length = zsum (fun a => (st.wt a).length) n then 1 else 0) i))), (3, .int (nI i))] := hl
  obtain ⟨hMi, hsz⟩ := hI
  have hRi : zRR G Mi x z n mb st 0 pt Y := by rw [hMi]; exact hRn
  have hx0 := hRi.obj
  have hmn := hRi.mn
  have hrw := hRi.rw
  have hxz := hRi.xz
  refine lv_iload_n hx hb dR_look_9 rfl (lv_at hl 3 rfl) ?_
  refine lv_aload_n hx hb dR_look_10 rfl (lv_at hl 0 rfl) ?_
  refine va_get (D := G.1) (ci := 2) (v := .int (nI n)) (C := RR) (T := TR) (N := 22) hx hb hz iR hown hK (hH.one hx0) 0 rfl rfl 1 (by decide) (hz _ zm_389) (fun _ h9 => h9) rfl dR_look_11 ?_
  refine zc_ge (tgt := 44) hx hb dR_look_14 (by decide) (by omega) (by omega) (fun b1 => ?_) (fun b1 => ?_)
  · have e1 : n = i := by omega
    subst e1
    refine lv_iconst (v := nI 0) hx hb dR_look_44 (by decide) ?_
    refine lv_istore_n (lv' := [(3, .int (nI 0)), (0, .ref x), (1, .int (nI 0)), (2, .int (nI (zsum (fun r => if (st.lg r).length = zsum (fun a => (st.wt a).length) n then 1 else 0) n)))]) hx hb dR_look_45 rfl hl (by decide) rfl (fun ls hl => ?_)
    refine lv_iconst (v := nI 0) hx hb dR_look_46 (by decide) ?_
    refine lv_istore (lv' := [(4, .int (nI 0)), (3, .int (nI 0)), (0, .ref x), (1, .int (nI 0)), (2, .int (nI (zsum (fun r => if (st.lg r).length = zsum (fun a => (st.wt a).length) n then 1 else 0) n)))]) hx hb dR_look_47 hl (by decide) rfl (fun ls hl => ?_)
    obtain ⟨Mo, hMo⟩ : ∃ Mq, Mq = Mi := ⟨_, rfl⟩
    refine zl_upH (Wg := fun ls H locs => W p l e _ s m _ below meth c H locs 0 0 _ (F0 m 49 ls [])) (fun i ls H locs => lv_has ls 5 [(0, .ref x), (1, .int (nI 0)), (2, .int (nI (zsum (fun r => if (st.lg r).length = zsum (fun a => (st.wt a).length) n then 1 else 0) n))), (3, .int (nI (zsum (zby st) i))), (4, .int (nI i))] ∧ ∃ Mq : zw_M, zw_H G.1 zCl B Mq H ∧ va_S (zw_A B) s.heap H locs ∧ Mq = M1 ∧ H.size = sz) st.fl.length ?_ (i := 0) (by omega) ⟨lv_sub hl [2, 3, 4, 1, 0] rfl, Mi, hH, hS, ⟨hMi, hsz⟩⟩
    intro i hi ls Hi Li ⟨hl, Mi, hH, hS, hI⟩ ih
    have hl : lv_has ls 5 [(0, .ref x), (1, .int (nI 0)), (2, .int (nI (zsum (fun r => if (st.lg r).length = zsum (fun a => (st.wt a).length) n then 1 else 0) n))), (3, .int (nI (zsum (zby st) i))), (4, .int (nI i))] := hl
    obtain ⟨hMi, hsz⟩ := hI
    have hRi : zRR G Mi x z n mb st 0 pt Y := by rw [hMi]; exact hRn
    have hx0 := hRi.obj
    have hmn := hRi.mn
    have hrw := hRi.rw
    have hxz := hRi.xz
    refine lv_iload hx hb dR_look_49 (lv_at hl 4 rfl) ?_
    refine lv_aload_n hx hb dR_look_51 rfl (lv_at hl 0 rfl) ?_
    refine va_get (D := G.1) (ci := 2) (v := .int (nI st.fl.length)) (C := RR) (T := TR) (N := 22) hx hb hz iR hown hK (hH.one hx0) 0 rfl rfl 9 (by decide) (hz _ zm_397) (fun _ h9 => h9) rfl dR_look_52 ?_
    refine zc_ge (tgt := 78) hx hb dR_look_55 (by decide) (by omega) (by omega) (fun b3 => ?_) (fun b3 => ?_)
    · have e2 : st.fl.length = i := by omega
      refine lv_iload_n hx hb dR_look_78 rfl (lv_at hl 1 rfl) ?_
      refine lv_tableIn (tgt := 128) hx hb dR_look_79 (by decide) (by decide) rfl (by decide) ?_
      refine lv_aload_n hx hb dR_look_128 rfl (lv_at hl 0 rfl) ?_
      refine va_get (D := G.1) (ci := 2) (v := .int (nI n)) (C := RR) (T := TR) (N := 22) hx hb hz iR hown hK (hH.one hx0) 0 rfl rfl 1 (by decide) (hz _ zm_389) (fun _ h9 => h9) rfl dR_look_129 ?_
      have hkx : ∀ a : Nat, a ≠ x → Mi a = M a := fun a h1 => by rw [hMi]; exact hkx a h1
      exact W.iret (v := (nI n)) hx hb hr (fun t ht hW => ⟨⟨(nI n), (Mi, sz), rfl, ⟨rfl, ⟨pt, Y, hRi⟩, fun q h1 h2 => hkx q h1, rfl⟩, by rw [ht]; exact hH, by rw [ht]; exact hsz⟩, hS.F ht⟩) hS.2.2 dR_look_132
    · obtain ⟨mg, hmg⟩ : ∃ mg, st.fl[i]? = some mg := ⟨_, List.getElem?_eq_getElem b3⟩
      refine lv_iload_n hx hb dR_look_58 rfl (lv_at hl 3 rfl) ?_
      refine lv_aload_n hx hb dR_look_59 rfl (lv_at hl 0 rfl) ?_
      refine lv_aload_n hx hb dR_look_60 rfl (lv_at hl 0 rfl) ?_
      refine va_get (D := G.1) (ci := 2) (v := .ref (z + 5)) (C := RR) (T := TR) (N := 22) hx hb hz iR hown hK (hH.one hx0) 0 rfl rfl 8 (by decide) (hz _ zm_396) (fun _ h9 => h9) rfl dR_look_61 ?_
      refine lv_iload hx hb dR_look_64 (lv_at hl 4 rfl) ?_
      refine zw_iald hx hb hK hH 0 hrw rfl (i) rfl (by omega) (by decide) dR_look_66 ?_
      refine zr_V (As := [.int (nI (Y.rw i))]) (rest := [.int (nI (zsum (zby st) i))]) (q := (RR, TR, 22)) ⟨hx, hb, hml, hown, hz⟩ (kR_bytesOf l G B Mi x z n mb st 0 pt Y hn hRi hok i mg hmg) (zt_V zm_528 zm_530 zs_25 zm_3 zm_531) rfl rfl rfl (show _ ∧ _ ∧ _ ∧ _ = some 1 from by decide +kernel) ⟨Nat.le_of_ble_eq_true rfl, Nat.le_of_ble_eq_true rfl⟩ zE_blind (zE_at hE hS) hH hK hx0 rfl rfl hl.1 rfl (Nat.le_of_ble_eq_true rfl) dR_look_67 ⟨Nat.le_of_ble_eq_true rfl, Nat.le_of_ble_eq_true rfl⟩ ?_
      refine lv_iadd hx hb dR_look_70 ?_
      refine zw_ti (nI_add _ _) ?_
      refine lv_istore_n (lv' := [(3, .int (nI ((zsum (zby st) i) + mg.byt))), (0, .ref x), (1, .int (nI 0)), (2, .int (nI (zsum (fun r => if (st.lg r).length = zsum (fun a => (st.wt a).length) n then 1 else 0) n))), (4, .int (nI i))]) hx hb dR_look_71 rfl hl (by decide) rfl (fun ls hl => ?_)
      refine lv_iinc (v := (nI (i + 1))) (lv' := [(4, .int (nI (i + 1))), (3, .int (nI ((zsum (zby st) i) + mg.byt))), (0, .ref x), (1, .int (nI 0)), (2, .int (nI (zsum (fun r => if (st.lg r).length = zsum (fun a => (st.wt a).length) n then 1 else 0) n)))]) hx hb dR_look_72 hl (k := 4) rfl (nI_add _ _) (by decide) rfl (fun ls hl => ?_)
      refine lv_goto (tgt := 49) hx hb dR_look_75 (by decide) ?_
      exact ih b3 ls Hi _ ⟨lv_sub hl [2, 3, 4, 1, 0] (by rw [show zsum (zby st) (i + 1) = zsum (zby st) i + mg.byt from by show _ + zby st i = _; rw [zby_at hmg]]; rfl), Mi, hH, hS, ⟨hMi, hsz⟩⟩
  · have hli := hok.len b1
    refine lv_iload_n hx hb dR_look_17 rfl (lv_at hl 2 rfl) ?_
    refine lv_aload_n hx hb dR_look_18 rfl (lv_at hl 0 rfl) ?_
    refine va_get (D := G.1) (ci := 2) (v := .ref (z + 4)) (C := RR) (T := TR) (N := 22) hx hb hz iR hown hK (hH.one hx0) 0 rfl rfl 7 (by decide) (hz _ zm_395) (fun _ h9 => h9) rfl dR_look_19 ?_
    refine lv_iload_n hx hb dR_look_22 rfl (lv_at hl 3 rfl) ?_
    refine zw_iald hx hb hK hH 0 hmn rfl (i) rfl (by omega) (by decide) dR_look_23 ?_
    refine lv_aload_n hx hb dR_look_24 rfl (lv_at hl 0 rfl) ?_
    refine zr_V (As := []) (rest := [.int (nI ((st.lg i).length)), .int (nI (zsum (fun r => if (st.lg r).length = zsum (fun a => (st.wt a).length) n then 1 else 0) i))]) (q := (RR, TR, 22)) ⟨hx, hb, hml, hown, hz⟩ (kR_total l G B Mi x z n mb st 0 pt Y hn hRi) (zt_V zm_557 zm_559 zs_26 zm_3 zm_560) rfl rfl rfl (show _ ∧ _ ∧ _ ∧ _ = some 0 from by decide +kernel) ⟨Nat.le_of_ble_eq_true rfl, Nat.le_of_ble_eq_true rfl⟩ zE_blind (zE_at hE hS) hH hK hx0 rfl rfl hl.1 rfl (Nat.le_of_ble_eq_true rfl) dR_look_25 ⟨Nat.le_of_ble_eq_true rfl, Nat.le_of_ble_eq_true rfl⟩ ?_
    refine zc_ne (tgt := 35) hx hb dR_look_28 (by decide) (by omega) (by omega) (fun b2 => ?_) (fun b2 => ?_)
    · refine lv_iconst (v := nI 0) hx hb dR_look_35 (by decide) ?_
      refine lv_iadd hx hb dR_look_36 ?_
      refine zw_ti (nI_add _ _) ?_
      refine lv_istore_n (lv' := [(2, .int (nI ((zsum (fun r => if (st.lg r).length = zsum (fun a => (st.wt a).length) n then 1 else 0) i) + 0))), (0, .ref x), (1, .int (nI 0)), (3, .int (nI i))]) hx hb dR_look_37 rfl hl (by decide) rfl (fun ls hl => ?_)
      refine lv_iinc (v := (nI (i + 1))) (lv' := [(3, .int (nI (i + 1))), (2, .int (nI ((zsum (fun r => if (st.lg r).length = zsum (fun a => (st.wt a).length) n then 1 else 0) i) + 0))), (0, .ref x), (1, .int (nI 0))]) hx hb dR_look_38 hl (k := 3) rfl (nI_add _ _) (by decide) rfl (fun ls hl => ?_)
      refine lv_goto (tgt := 9) hx hb dR_look_41 (by decide) ?_
      exact ih b1 ls Hi _ ⟨lv_sub hl [2, 3, 1, 0] (by rw [show zsum (fun r => if (st.lg r).length = zsum (fun a => (st.wt a).length) n then 1 else 0) (i + 1) = zsum (fun r => if (st.lg r).length = zsum (fun a => (st.wt a).length) n then 1 else 0) i + 0 from by show zsum _ i + (if (st.lg i).length = zsum (fun a => (st.wt a).length) n then 1 else 0) = _; rw [if_neg b2]]; rfl), Mi, hH, hS, ⟨hMi, hsz⟩⟩
    · refine lv_iconst (v := nI 1) hx hb dR_look_31 (by decide) ?_
      refine lv_goto (tgt := 36) hx hb dR_look_32 (by decide) ?_
      refine lv_iadd hx hb dR_look_36 ?_
      refine zw_ti (nI_add _ _) ?_
      refine lv_istore_n (lv' := [(2, .int (nI ((zsum (fun r => if (st.lg r).length = zsum (fun a => (st.wt a).length) n then 1 else 0) i) + 1))), (0, .ref x), (1, .int (nI 0)), (3, .int (nI i))]) hx hb dR_look_37 rfl hl (by decide) rfl (fun ls hl => ?_)
      refine lv_iinc (v := (nI (i + 1))) (lv' := [(3, .int (nI (i + 1))), (2, .int (nI ((zsum (fun r => if (st.lg r).length = zsum (fun a => (st.wt a).length) n then 1 else 0) i) + 1))), (0, .ref x), (1, .int (nI 0))]) hx hb dR_look_38 hl (k := 3) rfl (nI_add _ _) (by decide) rfl (fun ls hl => ?_)
      refine lv_goto (tgt := 9) hx hb dR_look_41 (by decide) ?_
      exact ih b1 ls Hi _ ⟨lv_sub hl [2, 3, 1, 0] (by rw [show zsum (fun r => if (st.lg r).length = zsum (fun a => (st.wt a).length) n then 1 else 0) (i + 1) = zsum (fun r => if (st.lg r).length = zsum (fun a => (st.wt a).length) n then 1 else 0) i + 1 from by show zsum _ i + (if (st.lg i).length = zsum (fun a => (st.wt a).length) n then 1 else 0) = _; rw [if_pos b2]]; rfl), Mi, hH, hS, ⟨hMi, hsz⟩⟩

set_option maxHeartbeats 4000000 in
set_option maxRecDepth 100000 in
theorem kR_look_1 (l : Launch) (G : zG) (B : Nat) (M : zw_M) (sz : Nat) (x z n mb : Nat) (st : zSt) (th pt : Nat) (Y : zRX) (hn : n ≤ 8) (hR : zRR G M x z n mb st th pt Y) (hok : zOK n st) : Met l yR_look (Cond.code yR_look bR_look 5 (some .int) :: zT) { frames := 2, cells := 0, slots := 0, locals := 50 } (zq G B M sz [.ref x, .int (nI 1)]) (va_Qi (fun (r : Int32) (u : zw_M × Nat) => r = nI mb ∧ zRO G x z n mb sz M st 0 u) (zr_o G.1 zCl B) (zw_A B)) (0) (0) (zw_A B) := by
  refine Met.ofW (cc := bR_look) (maxL := 5) (ret := (some .int)) (by decide) rfl ?_
  intro p e s m args below meth c s₁ B0 hml hv
  obtain ⟨rfl, hE, hH, hsz⟩ := hv
  have hx := B0.exec
  have hb := B0.bytes
  have hr := B0.returns
  have hlocks := B0.notSynchronized
  have hz : ∀ w ∈ zT, w.before _ s = true := fun w h => atoms_spec (ws := Cond.code yR_look bR_look 5 (some .int) :: zT) B0.pre w (List.mem_cons_of_mem _ h)
  have hown : s.vm.findClass RR = some m.cls := findClass_of_methodNamed B0.named
  have hK := hE.1
  have hl := lv_entry ([.ref x, .int (nI 1)]) (n := 5) (Nat.le_of_ble_eq_true rfl)
  rw [lg_entry_eq]
  generalize (lg_sl ([.ref x, .int (nI 1)]) ++ List.replicate (5 - (lg_sl ([.ref x, .int (nI 1)])).length) Slot.unset).toArray = ls at hl ⊢
  have hl : lv_has ls 5 [(0, .ref x), (1, .int (nI 1))] := hl
  have hS : va_S (zw_A B) s.heap s.heap [] := va_S.rf
  have hin : meth.name = "look" := (name_of_methodNamed B0.named B0.method).1
  have hT := zR_tot hok
  have h120 := hok.fl
  have hx0 := hR.obj
  have hmn := hR.mn
  have hrw := hR.rw
  have hxz := hR.xz
  refine lv_aload_n hx hb dR_look_0 rfl (lv_at hl 0 rfl) ?_
  refine lv_iconst (v := nI 0) hx hb dR_look_1 (by decide) ?_
  refine zw_put (D := G.1) (ci := 2) (v := .int (nI 0)) (ty := .int) (C := RR) (T := TR) (N := 22) hx hb hz iR tR tR_ok nR hown hK hH hS hx0 rfl 0 (by decide) (hz _ zm_388) (fun _ h9 => h9) rfl (by decide +kernel) rfl rfl (Nat.le_of_ble_eq_true rfl) dR_look_2 (fun H1 L1 hH hz1 hS => ?_)
  have hsz : H1.size = sz := hz1.trans hsz
  obtain ⟨M1, hM1⟩ : ∃ Mq, Mq = zw_u M x (.inr (2, zoR 0 n mb z st.fl.length st.se st.lo st.go st.pa pt)) := ⟨_, rfl⟩
  have hH : zw_H G.1 zCl B M1 H1 := by rw [hM1]; exact hH
  have hmn : M1 (z + 4) = some (.inl (G.2.1 0, 8, .inl (fun a9 => nI ((st.lg a9).length)))) := by rw [hM1, zw_un _ _ (by omega)]; exact hmn
  have hrw : M1 (z + 5) = some (.inl (G.2.1 0, 120, .inl (fun a9 => nI (Y.rw a9)))) := by rw [hM1, zw_un _ _ (by omega)]; exact hrw
  have hx0 : M1 x = some (.inr (2, zoR 0 n mb z st.fl.length st.se st.lo st.go st.pa pt)) := by rw [hM1]; exact zw_us _ _ _
  have hkx : ∀ a : Nat, a ≠ x → M1 a = M a := fun a h1 => by rw [hM1, zw_un _ _ h1]
  have hRn : zRR G M1 x z n mb st 0 pt Y := hR.cnt (st' := st) rfl rfl rfl rfl hx0 (fun a e h1 h2 => (hkx a h1).trans h2)
  refine lv_iconst (v := nI 0) hx hb dR_look_5 (by decide) ?_
  refine lv_istore_n (lv' := [(2, .int (nI 0)), (0, .ref x), (1, .int (nI 1))]) hx hb dR_look_6 rfl hl (by decide) rfl (fun ls hl => ?_)
  refine lv_iconst (v := nI 0) hx hb dR_look_7 (by decide) ?_
  refine lv_istore_n (lv' := [(3, .int (nI 0)), (2, .int (nI 0)), (0, .ref x), (1, .int (nI 1))]) hx hb dR_look_8 rfl hl (by decide) rfl (fun ls hl => ?_)
  refine zl_upH (Wg := fun ls H locs => W p l e _ s m _ below meth c H locs 0 0 _ (F0 m 9 ls [])) (fun i ls H locs => lv_has ls 5 [(0, .ref x), (1, .int (nI 1)), (2, .int (nI (zsum (fun r => if (st.lg r).length = zsum (fun a => (st.wt a).length) n then 1 else 0) i))), (3, .int (nI i))] ∧ ∃ Mq : zw_M, zw_H G.1 zCl B Mq H ∧ va_S (zw_A B) s.heap H locs ∧ Mq = M1 ∧ H.size = sz) n ?_ (i := 0) (by omega) ⟨lv_sub hl [2, 3, 1, 0] rfl, M1, hH, hS, ⟨rfl, hsz⟩⟩
  intro i hi ls Hi Li ⟨hl, Mi, hH, hS, hI⟩ ih
  have hl : lv_has ls 5 [(0, .ref x), (1, .int (nI 1)), (2, .int (nI (zsum (fun r => if (st.lg r).length = zsum (fun a => (st.wt a).length) n then 1 else 0) i))), (3, .int (nI i))] := hl
  obtain ⟨hMi, hsz⟩ := hI
  have hRi : zRR G Mi x z n mb st 0 pt Y := by rw [hMi]; exact hRn
  have hx0 := hRi.obj
  have hmn := hRi.mn
  have hrw := hRi.rw
  have hxz := hRi.xz
  refine lv_iload_n hx hb dR_look_9 rfl (lv_at hl 3 rfl) ?_
  refine lv_aload_n hx hb dR_look_10 rfl (lv_at hl 0 rfl) ?_
  refine va_get (D := G.1) (ci := 2) (v := .int (nI n)) (C := RR) (T := TR) (N := 22) hx hb hz iR hown hK (hH.one hx0) 0 rfl rfl 1 (by decide) (hz _ zm_389) (fun _ h9 => h9) rfl dR_look_11 ?_
  refine zc_ge (tgt := 44) hx hb dR_look_14 (by decide) (by omega) (by omega) (fun b1 => ?_) (fun b1 => ?_)
  · have e1 : n = i := by omega
    subst e1
    refine lv_iconst (v := nI 0) hx hb dR_look_44 (by decide) ?_
    refine lv_istore_n (lv' := [(3, .int (nI 0)), (0, .ref x), (1, .int (nI 1)), (2, .int (nI (zsum (fun r => if (st.lg r).length = zsum (fun a => (st.wt a).length) n then 1 else 0) n)))]) hx hb dR_look_45 rfl hl (by decide) rfl (fun ls hl => ?_)
    refine lv_iconst (v := nI 0) hx hb dR_look_46 (by decide) ?_
    refine lv_istore (lv' := [(4, .int (nI 0)), (3, .int (nI 0)), (0, .ref x), (1, .int (nI 1)), (2, .int (nI (zsum (fun r => if (st.lg r).length = zsum (fun a => (st.wt a).length) n then 1 else 0) n)))]) hx hb dR_look_47 hl (by decide) rfl (fun ls hl => ?_)
    obtain ⟨Mo, hMo⟩ : ∃ Mq, Mq = Mi := ⟨_, rfl⟩
    refine zl_upH (Wg := fun ls H locs => W p l e _ s m _ below meth c H locs 0 0 _ (F0 m 49 ls [])) (fun i ls H locs => lv_has ls 5 [(0, .ref x), (1, .int (nI 1)), (2, .int (nI (zsum (fun r => if (st.lg r).length = zsum (fun a => (st.wt a).length) n then 1 else 0) n))), (3, .int (nI (zsum (zby st) i))), (4, .int (nI i))] ∧ ∃ Mq : zw_M, zw_H G.1 zCl B Mq H ∧ va_S (zw_A B) s.heap H locs ∧ Mq = M1 ∧ H.size = sz) st.fl.length ?_ (i := 0) (by omega) ⟨lv_sub hl [2, 3, 4, 1, 0] rfl, Mi, hH, hS, ⟨hMi, hsz⟩⟩
    intro i hi ls Hi Li ⟨hl, Mi, hH, hS, hI⟩ ih
    have hl : lv_has ls 5 [(0, .ref x), (1, .int (nI 1)), (2, .int (nI (zsum (fun r => if (st.lg r).length = zsum (fun a => (st.wt a).length) n then 1 else 0) n))), (3, .int (nI (zsum (zby st) i))), (4, .int (nI i))] := hl
    obtain ⟨hMi, hsz⟩ := hI
    have hRi : zRR G Mi x z n mb st 0 pt Y := by rw [hMi]; exact hRn
    have hx0 := hRi.obj
    have hmn := hRi.mn
    have hrw := hRi.rw
    have hxz := hRi.xz
    refine lv_iload hx hb dR_look_49 (lv_at hl 4 rfl) ?_
    refine lv_aload_n hx hb dR_look_51 rfl (lv_at hl 0 rfl) ?_
    refine va_get (D := G.1) (ci := 2) (v := .int (nI st.fl.length)) (C := RR) (T := TR) (N := 22) hx hb hz iR hown hK (hH.one hx0) 0 rfl rfl 9 (by decide) (hz _ zm_397) (fun _ h9 => h9) rfl dR_look_52 ?_
    refine zc_ge (tgt := 78) hx hb dR_look_55 (by decide) (by omega) (by omega) (fun b3 => ?_) (fun b3 => ?_)
    · have e2 : st.fl.length = i := by omega
      refine lv_iload_n hx hb dR_look_78 rfl (lv_at hl 1 rfl) ?_
      refine lv_tableIn (tgt := 133) hx hb dR_look_79 (by decide) (by decide) rfl (by decide) ?_
      refine lv_aload_n hx hb dR_look_133 rfl (lv_at hl 0 rfl) ?_
      refine va_get (D := G.1) (ci := 2) (v := .int (nI mb)) (C := RR) (T := TR) (N := 22) hx hb hz iR hown hK (hH.one hx0) 0 rfl rfl 2 (by decide) (hz _ zm_390) (fun _ h9 => h9) rfl dR_look_134 ?_
      have hkx : ∀ a : Nat, a ≠ x → Mi a = M a := fun a h1 => by rw [hMi]; exact hkx a h1
      exact W.iret (v := (nI mb)) hx hb hr (fun t ht hW => ⟨⟨(nI mb), (Mi, sz), rfl, ⟨rfl, ⟨pt, Y, hRi⟩, fun q h1 h2 => hkx q h1, rfl⟩, by rw [ht]; exact hH, by rw [ht]; exact hsz⟩, hS.F ht⟩) hS.2.2 dR_look_137
    · obtain ⟨mg, hmg⟩ : ∃ mg, st.fl[i]? = some mg := ⟨_, List.getElem?_eq_getElem b3⟩
      refine lv_iload_n hx hb dR_look_58 rfl (lv_at hl 3 rfl) ?_
      refine lv_aload_n hx hb dR_look_59 rfl (lv_at hl 0 rfl) ?_
      refine lv_aload_n hx hb dR_look_60 rfl (lv_at hl 0 rfl) ?_
      refine va_get (D := G.1) (ci := 2) (v := .ref (z + 5)) (C := RR) (T := TR) (N := 22) hx hb hz iR hown hK (hH.one hx0) 0 rfl rfl 8 (by decide) (hz _ zm_396) (fun _ h9 => h9) rfl dR_look_61 ?_
      refine lv_iload hx hb dR_look_64 (lv_at hl 4 rfl) ?_
      refine zw_iald hx hb hK hH 0 hrw rfl (i) rfl (by omega) (by decide) dR_look_66 ?_
      refine zr_V (As := [.int (nI (Y.rw i))]) (rest := [.int (nI (zsum (zby st) i))]) (q := (RR, TR, 22)) ⟨hx, hb, hml, hown, hz⟩ (kR_bytesOf l G B Mi x z n mb st 0 pt Y hn hRi hok i mg hmg) (zt_V zm_528 zm_530 zs_25 zm_3 zm_531) rfl rfl rfl (show _ ∧ _ ∧ _ ∧ _ = some 1 from by decide +kernel) ⟨Nat.le_of_ble_eq_true rfl, Nat.le_of_ble_eq_true rfl⟩ zE_blind (zE_at hE hS) hH hK hx0 rfl rfl hl.1 rfl (Nat.le_of_ble_eq_true rfl) dR_look_67 ⟨Nat.le_of_ble_eq_true rfl, Nat.le_of_ble_eq_true rfl⟩ ?_
      refine lv_iadd hx hb dR_look_70 ?_
      refine zw_ti (nI_add _ _) ?_
      refine lv_istore_n (lv' := [(3, .int (nI ((zsum (zby st) i) + mg.byt))), (0, .ref x), (1, .int (nI 1)), (2, .int (nI (zsum (fun r => if (st.lg r).length = zsum (fun a => (st.wt a).length) n then 1 else 0) n))), (4, .int (nI i))]) hx hb dR_look_71 rfl hl (by decide) rfl (fun ls hl => ?_)
      refine lv_iinc (v := (nI (i + 1))) (lv' := [(4, .int (nI (i + 1))), (3, .int (nI ((zsum (zby st) i) + mg.byt))), (0, .ref x), (1, .int (nI 1)), (2, .int (nI (zsum (fun r => if (st.lg r).length = zsum (fun a => (st.wt a).length) n then 1 else 0) n)))]) hx hb dR_look_72 hl (k := 4) rfl (nI_add _ _) (by decide) rfl (fun ls hl => ?_)
      refine lv_goto (tgt := 49) hx hb dR_look_75 (by decide) ?_
      exact ih b3 ls Hi _ ⟨lv_sub hl [2, 3, 4, 1, 0] (by rw [show zsum (zby st) (i + 1) = zsum (zby st) i + mg.byt from by show _ + zby st i = _; rw [zby_at hmg]]; rfl), Mi, hH, hS, ⟨hMi, hsz⟩⟩
  · have hli := hok.len b1
    refine lv_iload_n hx hb dR_look_17 rfl (lv_at hl 2 rfl) ?_
    refine lv_aload_n hx hb dR_look_18 rfl (lv_at hl 0 rfl) ?_
    refine va_get (D := G.1) (ci := 2) (v := .ref (z + 4)) (C := RR) (T := TR) (N := 22) hx hb hz iR hown hK (hH.one hx0) 0 rfl rfl 7 (by decide) (hz _ zm_395) (fun _ h9 => h9) rfl dR_look_19 ?_
    refine lv_iload_n hx hb dR_look_22 rfl (lv_at hl 3 rfl) ?_
    refine zw_iald hx hb hK hH 0 hmn rfl (i) rfl (by omega) (by decide) dR_look_23 ?_
    refine lv_aload_n hx hb dR_look_24 rfl (lv_at hl 0 rfl) ?_
    refine zr_V (As := []) (rest := [.int (nI ((st.lg i).length)), .int (nI (zsum (fun r => if (st.lg r).length = zsum (fun a => (st.wt a).length) n then 1 else 0) i))]) (q := (RR, TR, 22)) ⟨hx, hb, hml, hown, hz⟩ (kR_total l G B Mi x z n mb st 0 pt Y hn hRi) (zt_V zm_557 zm_559 zs_26 zm_3 zm_560) rfl rfl rfl (show _ ∧ _ ∧ _ ∧ _ = some 0 from by decide +kernel) ⟨Nat.le_of_ble_eq_true rfl, Nat.le_of_ble_eq_true rfl⟩ zE_blind (zE_at hE hS) hH hK hx0 rfl rfl hl.1 rfl (Nat.le_of_ble_eq_true rfl) dR_look_25 ⟨Nat.le_of_ble_eq_true rfl, Nat.le_of_ble_eq_true rfl⟩ ?_
    refine zc_ne (tgt := 35) hx hb dR_look_28 (by decide) (by omega) (by omega) (fun b2 => ?_) (fun b2 => ?_)
    · refine lv_iconst (v := nI 0) hx hb dR_look_35 (by decide) ?_
      refine lv_iadd hx hb dR_look_36 ?_
      refine zw_ti (nI_add _ _) ?_
      refine lv_istore_n (lv' := [(2, .int (nI ((zsum (fun r => if (st.lg r).length = zsum (fun a => (st.wt a).length) n then 1 else 0) i) + 0))), (0, .ref x), (1, .int (nI 1)), (3, .int (nI i))]) hx hb dR_look_37 rfl hl (by decide) rfl (fun ls hl => ?_)
      refine lv_iinc (v := (nI (i + 1))) (lv' := [(3, .int (nI (i + 1))), (2, .int (nI ((zsum (fun r => if (st.lg r).length = zsum (fun a => (st.wt a).length) n then 1 else 0) i) + 0))), (0, .ref x), (1, .int (nI 1))]) hx hb dR_look_38 hl (k := 3) rfl (nI_add _ _) (by decide) rfl (fun ls hl => ?_)
      refine lv_goto (tgt := 9) hx hb dR_look_41 (by decide) ?_
      exact ih b1 ls Hi _ ⟨lv_sub hl [2, 3, 1, 0] (by rw [show zsum (fun r => if (st.lg r).length = zsum (fun a => (st.wt a).length) n then 1 else 0) (i + 1) = zsum (fun r => if (st.lg r).length = zsum (fun a => (st.wt a).length) n then 1 else 0) i + 0 from by show zsum _ i + (if (st.lg i).length = zsum (fun a => (st.wt a).length) n then 1 else 0) = _; rw [if_neg b2]]; rfl), Mi, hH, hS, ⟨hMi, hsz⟩⟩
    · refine lv_iconst (v := nI 1) hx hb dR_look_31 (by decide) ?_
      refine lv_goto (tgt := 36) hx hb dR_look_32 (by decide) ?_
      refine lv_iadd hx hb dR_look_36 ?_
      refine zw_ti (nI_add _ _) ?_
      refine lv_istore_n (lv' := [(2, .int (nI ((zsum (fun r => if (st.lg r).length = zsum (fun a => (st.wt a).length) n then 1 else 0) i) + 1))), (0, .ref x), (1, .int (nI 1)), (3, .int (nI i))]) hx hb dR_look_37 rfl hl (by decide) rfl (fun ls hl => ?_)
      refine lv_iinc (v := (nI (i + 1))) (lv' := [(3, .int (nI (i + 1))), (2, .int (nI ((zsum (fun r => if (st.lg r).length = zsum (fun a => (st.wt a).length) n then 1 else 0) i) + 1))), (0, .ref x), (1, .int (nI 1))]) hx hb dR_look_38 hl (k := 3) rfl (nI_add _ _) (by decide) rfl (fun ls hl => ?_)
      refine lv_goto (tgt := 9) hx hb dR_look_41 (by decide) ?_
      exact ih b1 ls Hi _ ⟨lv_sub hl [2, 3, 1, 0] (by rw [show zsum (fun r => if (st.lg r).length = zsum (fun a => (st.wt a).length) n then 1 else 0) (i + 1) = zsum (fun r => if (st.lg r).length = zsum (fun a => (st.wt a).length) n then 1 else 0) i + 1 from by show zsum _ i + (if (st.lg i).length = zsum (fun a => (st.wt a).length) n then 1 else 0) = _; rw [if_pos b2]]; rfl), Mi, hH, hS, ⟨hMi, hsz⟩⟩

set_option maxHeartbeats 4000000 in
set_option maxRecDepth 100000 in
theorem kR_look_2 (l : Launch) (G : zG) (B : Nat) (M : zw_M) (sz : Nat) (x z n mb : Nat) (st : zSt) (th pt : Nat) (Y : zRX) (hn : n ≤ 8) (hR : zRR G M x z n mb st th pt Y) (hok : zOK n st) : Met l yR_look (Cond.code yR_look bR_look 5 (some .int) :: zT) { frames := 2, cells := 0, slots := 0, locals := 50 } (zq G B M sz [.ref x, .int (nI 2)]) (va_Qi (fun (r : Int32) (u : zw_M × Nat) => r = nI st.fl.length ∧ zRO G x z n mb sz M st 0 u) (zr_o G.1 zCl B) (zw_A B)) (0) (0) (zw_A B) := by
  refine Met.ofW (cc := bR_look) (maxL := 5) (ret := (some .int)) (by decide) rfl ?_
  intro p e s m args below meth c s₁ B0 hml hv
  obtain ⟨rfl, hE, hH, hsz⟩ := hv
  have hx := B0.exec
  have hb := B0.bytes
  have hr := B0.returns
  have hlocks := B0.notSynchronized
  have hz : ∀ w ∈ zT, w.before _ s = true := fun w h => atoms_spec (ws := Cond.code yR_look bR_look 5 (some .int) :: zT) B0.pre w (List.mem_cons_of_mem _ h)
  have hown : s.vm.findClass RR = some m.cls := findClass_of_methodNamed B0.named
  have hK := hE.1
  have hl := lv_entry ([.ref x, .int (nI 2)]) (n := 5) (Nat.le_of_ble_eq_true rfl)
  rw [lg_entry_eq]
  generalize (lg_sl ([.ref x, .int (nI 2)]) ++ List.replicate (5 - (lg_sl ([.ref x, .int (nI 2)])).length) Slot.unset).toArray = ls at hl ⊢
  have hl : lv_has ls 5 [(0, .ref x), (1, .int (nI 2))] := hl
  have hS : va_S (zw_A B) s.heap s.heap [] := va_S.rf
  have hin : meth.name = "look" := (name_of_methodNamed B0.named B0.method).1
  have hT := zR_tot hok
  have h120 := hok.fl
  have hx0 := hR.obj
  have hmn := hR.mn
  have hrw := hR.rw
  have hxz := hR.xz
  refine lv_aload_n hx hb dR_look_0 rfl (lv_at hl 0 rfl) ?_
  refine lv_iconst (v := nI 0) hx hb dR_look_1 (by decide) ?_
  refine zw_put (D := G.1) (ci := 2) (v := .int (nI 0)) (ty := .int) (C := RR) (T := TR) (N := 22) hx hb hz iR tR tR_ok nR hown hK hH hS hx0 rfl 0 (by decide) (hz _ zm_388) (fun _ h9 => h9) rfl (by decide +kernel) rfl rfl (Nat.le_of_ble_eq_true rfl) dR_look_2 (fun H1 L1 hH hz1 hS => ?_)
  have hsz : H1.size = sz := hz1.trans hsz
  obtain ⟨M1, hM1⟩ : ∃ Mq, Mq = zw_u M x (.inr (2, zoR 0 n mb z st.fl.length st.se st.lo st.go st.pa pt)) := ⟨_, rfl⟩
  have hH : zw_H G.1 zCl B M1 H1 := by rw [hM1]; exact hH
  have hmn : M1 (z + 4) = some (.inl (G.2.1 0, 8, .inl (fun a9 => nI ((st.lg a9).length)))) := by rw [hM1, zw_un _ _ (by omega)]; exact hmn
  have hrw : M1 (z + 5) = some (.inl (G.2.1 0, 120, .inl (fun a9 => nI (Y.rw a9)))) := by rw [hM1, zw_un _ _ (by omega)]; exact hrw
  have hx0 : M1 x = some (.inr (2, zoR 0 n mb z st.fl.length st.se st.lo st.go st.pa pt)) := by rw [hM1]; exact zw_us _ _ _
  have hkx : ∀ a : Nat, a ≠ x → M1 a = M a := fun a h1 => by rw [hM1, zw_un _ _ h1]
  have hRn : zRR G M1 x z n mb st 0 pt Y := hR.cnt (st' := st) rfl rfl rfl rfl hx0 (fun a e h1 h2 => (hkx a h1).trans h2)
  refine lv_iconst (v := nI 0) hx hb dR_look_5 (by decide) ?_
  refine lv_istore_n (lv' := [(2, .int (nI 0)), (0, .ref x), (1, .int (nI 2))]) hx hb dR_look_6 rfl hl (by decide) rfl (fun ls hl => ?_)
  refine lv_iconst (v := nI 0) hx hb dR_look_7 (by decide) ?_
  refine lv_istore_n (lv' := [(3, .int (nI 0)), (2, .int (nI 0)), (0, .ref x), (1, .int (nI 2))]) hx hb dR_look_8 rfl hl (by decide) rfl (fun ls hl => ?_)
  refine zl_upH (Wg := fun ls H locs => W p l e _ s m _ below meth c H locs 0 0 _ (F0 m 9 ls [])) (fun i ls H locs => lv_has ls 5 [(0, .ref x), (1, .int (nI 2)), (2, .int (nI (zsum (fun r => if (st.lg r).length = zsum (fun a => (st.wt a).length) n then 1 else 0) i))), (3, .int (nI i))] ∧ ∃ Mq : zw_M, zw_H G.1 zCl B Mq H ∧ va_S (zw_A B) s.heap H locs ∧ Mq = M1 ∧ H.size = sz) n ?_ (i := 0) (by omega) ⟨lv_sub hl [2, 3, 1, 0] rfl, M1, hH, hS, ⟨rfl, hsz⟩⟩
  intro i hi ls Hi Li ⟨hl, Mi, hH, hS, hI⟩ ih
  have hl : lv_has ls 5 [(0, .ref x), (1, .int (nI 2)), (2, .int (nI (zsum (fun r => if (st.lg r).length = zsum (fun a => (st.wt a).length) n then 1 else 0) i))), (3, .int (nI i))] := hl
  obtain ⟨hMi, hsz⟩ := hI
  have hRi : zRR G Mi x z n mb st 0 pt Y := by rw [hMi]; exact hRn
  have hx0 := hRi.obj
  have hmn := hRi.mn
  have hrw := hRi.rw
  have hxz := hRi.xz
  refine lv_iload_n hx hb dR_look_9 rfl (lv_at hl 3 rfl) ?_
  refine lv_aload_n hx hb dR_look_10 rfl (lv_at hl 0 rfl) ?_
  refine va_get (D := G.1) (ci := 2) (v := .int (nI n)) (C := RR) (T := TR) (N := 22) hx hb hz iR hown hK (hH.one hx0) 0 rfl rfl 1 (by decide) (hz _ zm_389) (fun _ h9 => h9) rfl dR_look_11 ?_
  refine zc_ge (tgt := 44) hx hb dR_look_14 (by decide) (by omega) (by omega) (fun b1 => ?_) (fun b1 => ?_)
  · have e1 : n = i := by omega
    subst e1
    refine lv_iconst (v := nI 0) hx hb dR_look_44 (by decide) ?_
    refine lv_istore_n (lv' := [(3, .int (nI 0)), (0, .ref x), (1, .int (nI 2)), (2, .int (nI (zsum (fun r => if (st.lg r).length = zsum (fun a => (st.wt a).length) n then 1 else 0) n)))]) hx hb dR_look_45 rfl hl (by decide) rfl (fun ls hl => ?_)
    refine lv_iconst (v := nI 0) hx hb dR_look_46 (by decide) ?_
    refine lv_istore (lv' := [(4, .int (nI 0)), (3, .int (nI 0)), (0, .ref x), (1, .int (nI 2)), (2, .int (nI (zsum (fun r => if (st.lg r).length = zsum (fun a => (st.wt a).length) n then 1 else 0) n)))]) hx hb dR_look_47 hl (by decide) rfl (fun ls hl => ?_)
    obtain ⟨Mo, hMo⟩ : ∃ Mq, Mq = Mi := ⟨_, rfl⟩
    refine zl_upH (Wg := fun ls H locs => W p l e _ s m _ below meth c H locs 0 0 _ (F0 m 49 ls [])) (fun i ls H locs => lv_has ls 5 [(0, .ref x), (1, .int (nI 2)), (2, .int (nI (zsum (fun r => if (st.lg r).length = zsum (fun a => (st.wt a).length) n then 1 else 0) n))), (3, .int (nI (zsum (zby st) i))), (4, .int (nI i))] ∧ ∃ Mq : zw_M, zw_H G.1 zCl B Mq H ∧ va_S (zw_A B) s.heap H locs ∧ Mq = M1 ∧ H.size = sz) st.fl.length ?_ (i := 0) (by omega) ⟨lv_sub hl [2, 3, 4, 1, 0] rfl, Mi, hH, hS, ⟨hMi, hsz⟩⟩
    intro i hi ls Hi Li ⟨hl, Mi, hH, hS, hI⟩ ih
    have hl : lv_has ls 5 [(0, .ref x), (1, .int (nI 2)), (2, .int (nI (zsum (fun r => if (st.lg r).length = zsum (fun a => (st.wt a).length) n then 1 else 0) n))), (3, .int (nI (zsum (zby st) i))), (4, .int (nI i))] := hl
    obtain ⟨hMi, hsz⟩ := hI
    have hRi : zRR G Mi x z n mb st 0 pt Y := by rw [hMi]; exact hRn
    have hx0 := hRi.obj
    have hmn := hRi.mn
    have hrw := hRi.rw
    have hxz := hRi.xz
    refine lv_iload hx hb dR_look_49 (lv_at hl 4 rfl) ?_
    refine lv_aload_n hx hb dR_look_51 rfl (lv_at hl 0 rfl) ?_
    refine va_get (D := G.1) (ci := 2) (v := .int (nI st.fl.length)) (C := RR) (T := TR) (N := 22) hx hb hz iR hown hK (hH.one hx0) 0 rfl rfl 9 (by decide) (hz _ zm_397) (fun _ h9 => h9) rfl dR_look_52 ?_
    refine zc_ge (tgt := 78) hx hb dR_look_55 (by decide) (by omega) (by omega) (fun b3 => ?_) (fun b3 => ?_)
    · have e2 : st.fl.length = i := by omega
      refine lv_iload_n hx hb dR_look_78 rfl (lv_at hl 1 rfl) ?_
      refine lv_tableIn (tgt := 138) hx hb dR_look_79 (by decide) (by decide) rfl (by decide) ?_
      refine lv_aload_n hx hb dR_look_138 rfl (lv_at hl 0 rfl) ?_
      refine va_get (D := G.1) (ci := 2) (v := .int (nI st.fl.length)) (C := RR) (T := TR) (N := 22) hx hb hz iR hown hK (hH.one hx0) 0 rfl rfl 9 (by decide) (hz _ zm_397) (fun _ h9 => h9) rfl dR_look_139 ?_
      have hkx : ∀ a : Nat, a ≠ x → Mi a = M a := fun a h1 => by rw [hMi]; exact hkx a h1
      exact W.iret (v := (nI st.fl.length)) hx hb hr (fun t ht hW => ⟨⟨(nI st.fl.length), (Mi, sz), rfl, ⟨rfl, ⟨pt, Y, hRi⟩, fun q h1 h2 => hkx q h1, rfl⟩, by rw [ht]; exact hH, by rw [ht]; exact hsz⟩, hS.F ht⟩) hS.2.2 dR_look_142
    · obtain ⟨mg, hmg⟩ : ∃ mg, st.fl[i]? = some mg := ⟨_, List.getElem?_eq_getElem b3⟩
      refine lv_iload_n hx hb dR_look_58 rfl (lv_at hl 3 rfl) ?_
      refine lv_aload_n hx hb dR_look_59 rfl (lv_at hl 0 rfl) ?_
      refine lv_aload_n hx hb dR_look_60 rfl (lv_at hl 0 rfl) ?_
      refine va_get (D := G.1) (ci := 2) (v := .ref (z + 5)) (C := RR) (T := TR) (N := 22) hx hb hz iR hown hK (hH.one hx0) 0 rfl rfl 8 (by decide) (hz _ zm_396) (fun _ h9 => h9) rfl dR_look_61 ?_
      refine lv_iload hx hb dR_look_64 (lv_at hl 4 rfl) ?_
      refine zw_iald hx hb hK hH 0 hrw rfl (i) rfl (by omega) (by decide) dR_look_66 ?_
      refine zr_V (As := [.int (nI (Y.rw i))]) (rest := [.int (nI (zsum (zby st) i))]) (q := (RR, TR, 22)) ⟨hx, hb, hml, hown, hz⟩ (kR_bytesOf l G B Mi x z n mb st 0 pt Y hn hRi hok i mg hmg) (zt_V zm_528 zm_530 zs_25 zm_3 zm_531) rfl rfl rfl (show _ ∧ _ ∧ _ ∧ _ = some 1 from by decide +kernel) ⟨Nat.le_of_ble_eq_true rfl, Nat.le_of_ble_eq_true rfl⟩ zE_blind (zE_at hE hS) hH hK hx0 rfl rfl hl.1 rfl (Nat.le_of_ble_eq_true rfl) dR_look_67 ⟨Nat.le_of_ble_eq_true rfl, Nat.le_of_ble_eq_true rfl⟩ ?_
      refine lv_iadd hx hb dR_look_70 ?_
      refine zw_ti (nI_add _ _) ?_
      refine lv_istore_n (lv' := [(3, .int (nI ((zsum (zby st) i) + mg.byt))), (0, .ref x), (1, .int (nI 2)), (2, .int (nI (zsum (fun r => if (st.lg r).length = zsum (fun a => (st.wt a).length) n then 1 else 0) n))), (4, .int (nI i))]) hx hb dR_look_71 rfl hl (by decide) rfl (fun ls hl => ?_)
      refine lv_iinc (v := (nI (i + 1))) (lv' := [(4, .int (nI (i + 1))), (3, .int (nI ((zsum (zby st) i) + mg.byt))), (0, .ref x), (1, .int (nI 2)), (2, .int (nI (zsum (fun r => if (st.lg r).length = zsum (fun a => (st.wt a).length) n then 1 else 0) n)))]) hx hb dR_look_72 hl (k := 4) rfl (nI_add _ _) (by decide) rfl (fun ls hl => ?_)
      refine lv_goto (tgt := 49) hx hb dR_look_75 (by decide) ?_
      exact ih b3 ls Hi _ ⟨lv_sub hl [2, 3, 4, 1, 0] (by rw [show zsum (zby st) (i + 1) = zsum (zby st) i + mg.byt from by show _ + zby st i = _; rw [zby_at hmg]]; rfl), Mi, hH, hS, ⟨hMi, hsz⟩⟩
  · have hli := hok.len b1
    refine lv_iload_n hx hb dR_look_17 rfl (lv_at hl 2 rfl) ?_
    refine lv_aload_n hx hb dR_look_18 rfl (lv_at hl 0 rfl) ?_
    refine va_get (D := G.1) (ci := 2) (v := .ref (z + 4)) (C := RR) (T := TR) (N := 22) hx hb hz iR hown hK (hH.one hx0) 0 rfl rfl 7 (by decide) (hz _ zm_395) (fun _ h9 => h9) rfl dR_look_19 ?_
    refine lv_iload_n hx hb dR_look_22 rfl (lv_at hl 3 rfl) ?_
    refine zw_iald hx hb hK hH 0 hmn rfl (i) rfl (by omega) (by decide) dR_look_23 ?_
    refine lv_aload_n hx hb dR_look_24 rfl (lv_at hl 0 rfl) ?_
    refine zr_V (As := []) (rest := [.int (nI ((st.lg i).length)), .int (nI (zsum (fun r => if (st.lg r).length = zsum (fun a => (st.wt a).length) n then 1 else 0) i))]) (q := (RR, TR, 22)) ⟨hx, hb, hml, hown, hz⟩ (kR_total l G B Mi x z n mb st 0 pt Y hn hRi) (zt_V zm_557 zm_559 zs_26 zm_3 zm_560) rfl rfl rfl (show _ ∧ _ ∧ _ ∧ _ = some 0 from by decide +kernel) ⟨Nat.le_of_ble_eq_true rfl, Nat.le_of_ble_eq_true rfl⟩ zE_blind (zE_at hE hS) hH hK hx0 rfl rfl hl.1 rfl (Nat.le_of_ble_eq_true rfl) dR_look_25 ⟨Nat.le_of_ble_eq_true rfl, Nat.le_of_ble_eq_true rfl⟩ ?_
    refine zc_ne (tgt := 35) hx hb dR_look_28 (by decide) (by omega) (by omega) (fun b2 => ?_) (fun b2 => ?_)
    · refine lv_iconst (v := nI 0) hx hb dR_look_35 (by decide) ?_
      refine lv_iadd hx hb dR_look_36 ?_
      refine zw_ti (nI_add _ _) ?_
      refine lv_istore_n (lv' := [(2, .int (nI ((zsum (fun r => if (st.lg r).length = zsum (fun a => (st.wt a).length) n then 1 else 0) i) + 0))), (0, .ref x), (1, .int (nI 2)), (3, .int (nI i))]) hx hb dR_look_37 rfl hl (by decide) rfl (fun ls hl => ?_)
      refine lv_iinc (v := (nI (i + 1))) (lv' := [(3, .int (nI (i + 1))), (2, .int (nI ((zsum (fun r => if (st.lg r).length = zsum (fun a => (st.wt a).length) n then 1 else 0) i) + 0))), (0, .ref x), (1, .int (nI 2))]) hx hb dR_look_38 hl (k := 3) rfl (nI_add _ _) (by decide) rfl (fun ls hl => ?_)
      refine lv_goto (tgt := 9) hx hb dR_look_41 (by decide) ?_
      exact ih b1 ls Hi _ ⟨lv_sub hl [2, 3, 1, 0] (by rw [show zsum (fun r => if (st.lg r).length = zsum (fun a => (st.wt a).length) n then 1 else 0) (i + 1) = zsum (fun r => if (st.lg r).length = zsum (fun a => (st.wt a).length) n then 1 else 0) i + 0 from by show zsum _ i + (if (st.lg i).length = zsum (fun a => (st.wt a).length) n then 1 else 0) = _; rw [if_neg b2]]; rfl), Mi, hH, hS, ⟨hMi, hsz⟩⟩
    · refine lv_iconst (v := nI 1) hx hb dR_look_31 (by decide) ?_
      refine lv_goto (tgt := 36) hx hb dR_look_32 (by decide) ?_
      refine lv_iadd hx hb dR_look_36 ?_
      refine zw_ti (nI_add _ _) ?_
      refine lv_istore_n (lv' := [(2, .int (nI ((zsum (fun r => if (st.lg r).length = zsum (fun a => (st.wt a).length) n then 1 else 0) i) + 1))), (0, .ref x), (1, .int (nI 2)), (3, .int (nI i))]) hx hb dR_look_37 rfl hl (by decide) rfl (fun ls hl => ?_)
      refine lv_iinc (v := (nI (i + 1))) (lv' := [(3, .int (nI (i + 1))), (2, .int (nI ((zsum (fun r => if (st.lg r).length = zsum (fun a => (st.wt a).length) n then 1 else 0) i) + 1))), (0, .ref x), (1, .int (nI 2))]) hx hb dR_look_38 hl (k := 3) rfl (nI_add _ _) (by decide) rfl (fun ls hl => ?_)
      refine lv_goto (tgt := 9) hx hb dR_look_41 (by decide) ?_
      exact ih b1 ls Hi _ ⟨lv_sub hl [2, 3, 1, 0] (by rw [show zsum (fun r => if (st.lg r).length = zsum (fun a => (st.wt a).length) n then 1 else 0) (i + 1) = zsum (fun r => if (st.lg r).length = zsum (fun a => (st.wt a).length) n then 1 else 0) i + 1 from by show zsum _ i + (if (st.lg i).length = zsum (fun a => (st.wt a).length) n then 1 else 0) = _; rw [if_pos b2]]; rfl), Mi, hH, hS, ⟨hMi, hsz⟩⟩

set_option maxHeartbeats 4000000 in
set_option maxRecDepth 100000 in
theorem kR_look_3 (l : Launch) (G : zG) (B : Nat) (M : zw_M) (sz : Nat) (x z n mb : Nat) (st : zSt) (th pt : Nat) (Y : zRX) (hn : n ≤ 8) (hR : zRR G M x z n mb st th pt Y) (hok : zOK n st) : Met l yR_look (Cond.code yR_look bR_look 5 (some .int) :: zT) { frames := 2, cells := 0, slots := 0, locals := 50 } (zq G B M sz [.ref x, .int (nI 3)]) (va_Qi (fun (r : Int32) (u : zw_M × Nat) => r = nI st.se ∧ zRO G x z n mb sz M st 0 u) (zr_o G.1 zCl B) (zw_A B)) (0) (0) (zw_A B) := by
  refine Met.ofW (cc := bR_look) (maxL := 5) (ret := (some .int)) (by decide) rfl ?_
  intro p e s m args below meth c s₁ B0 hml hv
  obtain ⟨rfl, hE, hH, hsz⟩ := hv
  have hx := B0.exec
  have hb := B0.bytes
  have hr := B0.returns
  have hlocks := B0.notSynchronized
  have hz : ∀ w ∈ zT, w.before _ s = true := fun w h => atoms_spec (ws := Cond.code yR_look bR_look 5 (some .int) :: zT) B0.pre w (List.mem_cons_of_mem _ h)
  have hown : s.vm.findClass RR = some m.cls := findClass_of_methodNamed B0.named
  have hK := hE.1
  have hl := lv_entry ([.ref x, .int (nI 3)]) (n := 5) (Nat.le_of_ble_eq_true rfl)
  rw [lg_entry_eq]
  generalize (lg_sl ([.ref x, .int (nI 3)]) ++ List.replicate (5 - (lg_sl ([.ref x, .int (nI 3)])).length) Slot.unset).toArray = ls at hl ⊢
  have hl : lv_has ls 5 [(0, .ref x), (1, .int (nI 3))] := hl
  have hS : va_S (zw_A B) s.heap s.heap [] := va_S.rf
  have hin : meth.name = "look" := (name_of_methodNamed B0.named B0.method).1
  have hT := zR_tot hok
  have h120 := hok.fl
  have hx0 := hR.obj
  have hmn := hR.mn
  have hrw := hR.rw
  have hxz := hR.xz
  refine lv_aload_n hx hb dR_look_0 rfl (lv_at hl 0 rfl) ?_
  refine lv_iconst (v := nI 0) hx hb dR_look_1 (by decide) ?_
  refine zw_put (D := G.1) (ci := 2) (v := .int (nI 0)) (ty := .int) (C := RR) (T := TR) (N := 22) hx hb hz iR tR tR_ok nR hown hK hH hS hx0 rfl 0 (by decide) (hz _ zm_388) (fun _ h9 => h9) rfl (by decide +kernel) rfl rfl (Nat.le_of_ble_eq_true rfl) dR_look_2 (fun H1 L1 hH hz1 hS => ?_)
  have hsz : H1.size = sz := hz1.trans hsz
  obtain ⟨M1, hM1⟩ : ∃ Mq, Mq = zw_u M x (.inr (2, zoR 0 n mb z st.fl.length st.se st.lo st.go st.pa pt)) := ⟨_, rfl⟩
  have hH : zw_H G.1 zCl B M1 H1 := by rw [hM1]; exact hH
  have hmn : M1 (z + 4) = some (.inl (G.2.1 0, 8, .inl (fun a9 => nI ((st.lg a9).length)))) := by rw [hM1, zw_un _ _ (by omega)]; exact hmn
  have hrw : M1 (z + 5) = some (.inl (G.2.1 0, 120, .inl (fun a9 => nI (Y.rw a9)))) := by rw [hM1, zw_un _ _ (by omega)]; exact hrw
  have hx0 : M1 x = some (.inr (2, zoR 0 n mb z st.fl.length st.se st.lo st.go st.pa pt)) := by rw [hM1]; exact zw_us _ _ _
  have hkx : ∀ a : Nat, a ≠ x → M1 a = M a := fun a h1 => by rw [hM1, zw_un _ _ h1]
  have hRn : zRR G M1 x z n mb st 0 pt Y := hR.cnt (st' := st) rfl rfl rfl rfl hx0 (fun a e h1 h2 => (hkx a h1).trans h2)
  refine lv_iconst (v := nI 0) hx hb dR_look_5 (by decide) ?_
  refine lv_istore_n (lv' := [(2, .int (nI 0)), (0, .ref x), (1, .int (nI 3))]) hx hb dR_look_6 rfl hl (by decide) rfl (fun ls hl => ?_)
  refine lv_iconst (v := nI 0) hx hb dR_look_7 (by decide) ?_
  refine lv_istore_n (lv' := [(3, .int (nI 0)), (2, .int (nI 0)), (0, .ref x), (1, .int (nI 3))]) hx hb dR_look_8 rfl hl (by decide) rfl (fun ls hl => ?_)
  refine zl_upH (Wg := fun ls H locs => W p l e _ s m _ below meth c H locs 0 0 _ (F0 m 9 ls [])) (fun i ls H locs => lv_has ls 5 [(0, .ref x), (1, .int (nI 3)), (2, .int (nI (zsum (fun r => if (st.lg r).length = zsum (fun a => (st.wt a).length) n then 1 else 0) i))), (3, .int (nI i))] ∧ ∃ Mq : zw_M, zw_H G.1 zCl B Mq H ∧ va_S (zw_A B) s.heap H locs ∧ Mq = M1 ∧ H.size = sz) n ?_ (i := 0) (by omega) ⟨lv_sub hl [2, 3, 1, 0] rfl, M1, hH, hS, ⟨rfl, hsz⟩⟩
  intro i hi ls Hi Li ⟨hl, Mi, hH, hS, hI⟩ ih
  have hl : lv_has ls 5 [(0, .ref x), (1, .int (nI 3)), (2, .int (nI (zsum (fun r => if (st.lg r).length = zsum (fun a => (st.wt a).length) n then 1 else 0) i))), (3, .int (nI i))] := hl
  obtain ⟨hMi, hsz⟩ := hI
  have hRi : zRR G Mi x z n mb st 0 pt Y := by rw [hMi]; exact hRn
  have hx0 := hRi.obj
  have hmn := hRi.mn
  have hrw := hRi.rw
  have hxz := hRi.xz
  refine lv_iload_n hx hb dR_look_9 rfl (lv_at hl 3 rfl) ?_
  refine lv_aload_n hx hb dR_look_10 rfl (lv_at hl 0 rfl) ?_
  refine va_get (D := G.1) (ci := 2) (v := .int (nI n)) (C := RR) (T := TR) (N := 22) hx hb hz iR hown hK (hH.one hx0) 0 rfl rfl 1 (by decide) (hz _ zm_389) (fun _ h9 => h9) rfl dR_look_11 ?_
  refine zc_ge (tgt := 44) hx hb dR_look_14 (by decide) (by omega) (by omega) (fun b1 => ?_) (fun b1 => ?_)
  · have e1 : n = i := by omega
    subst e1
    refine lv_iconst (v := nI 0) hx hb dR_look_44 (by decide) ?_
    refine lv_istore_n (lv' := [(3, .int (nI 0)), (0, .ref x), (1, .int (nI 3)), (2, .int (nI (zsum (fun r => if (st.lg r).length = zsum (fun a => (st.wt a).length) n then 1 else 0) n)))]) hx hb dR_look_45 rfl hl (by decide) rfl (fun ls hl => ?_)
    refine lv_iconst (v := nI 0) hx hb dR_look_46 (by decide) ?_
    refine lv_istore (lv' := [(4, .int (nI 0)), (3, .int (nI 0)), (0, .ref x), (1, .int (nI 3)), (2, .int (nI (zsum (fun r => if (st.lg r).length = zsum (fun a => (st.wt a).length) n then 1 else 0) n)))]) hx hb dR_look_47 hl (by decide) rfl (fun ls hl => ?_)
    obtain ⟨Mo, hMo⟩ : ∃ Mq, Mq = Mi := ⟨_, rfl⟩
    refine zl_upH (Wg := fun ls H locs => W p l e _ s m _ below meth c H locs 0 0 _ (F0 m 49 ls [])) (fun i ls H locs => lv_has ls 5 [(0, .ref x), (1, .int (nI 3)), (2, .int (nI (zsum (fun r => if (st.lg r).length = zsum (fun a => (st.wt a).length) n then 1 else 0) n))), (3, .int (nI (zsum (zby st) i))), (4, .int (nI i))] ∧ ∃ Mq : zw_M, zw_H G.1 zCl B Mq H ∧ va_S (zw_A B) s.heap H locs ∧ Mq = M1 ∧ H.size = sz) st.fl.length ?_ (i := 0) (by omega) ⟨lv_sub hl [2, 3, 4, 1, 0] rfl, Mi, hH, hS, ⟨hMi, hsz⟩⟩
    intro i hi ls Hi Li ⟨hl, Mi, hH, hS, hI⟩ ih
    have hl : lv_has ls 5 [(0, .ref x), (1, .int (nI 3)), (2, .int (nI (zsum (fun r => if (st.lg r).length = zsum (fun a => (st.wt a).length) n then 1 else 0) n))), (3, .int (nI (zsum (zby st) i))), (4, .int (nI i))] := hl
    obtain ⟨hMi, hsz⟩ := hI
    have hRi : zRR G Mi x z n mb st 0 pt Y := by rw [hMi]; exact hRn
    have hx0 := hRi.obj
    have hmn := hRi.mn
    have hrw := hRi.rw
    have hxz := hRi.xz
    refine lv_iload hx hb dR_look_49 (lv_at hl 4 rfl) ?_
    refine lv_aload_n hx hb dR_look_51 rfl (lv_at hl 0 rfl) ?_
    refine va_get (D := G.1) (ci := 2) (v := .int (nI st.fl.length)) (C := RR) (T := TR) (N := 22) hx hb hz iR hown hK (hH.one hx0) 0 rfl rfl 9 (by decide) (hz _ zm_397) (fun _ h9 => h9) rfl dR_look_52 ?_
    refine zc_ge (tgt := 78) hx hb dR_look_55 (by decide) (by omega) (by omega) (fun b3 => ?_) (fun b3 => ?_)
    · have e2 : st.fl.length = i := by omega
      refine lv_iload_n hx hb dR_look_78 rfl (lv_at hl 1 rfl) ?_
      refine lv_tableIn (tgt := 143) hx hb dR_look_79 (by decide) (by decide) rfl (by decide) ?_
      refine lv_aload_n hx hb dR_look_143 rfl (lv_at hl 0 rfl) ?_
      refine va_get (D := G.1) (ci := 2) (v := .int (nI st.se)) (C := RR) (T := TR) (N := 22) hx hb hz iR hown hK (hH.one hx0) 0 rfl rfl 16 (by decide) (hz _ zm_404) (fun _ h9 => h9) rfl dR_look_144 ?_
      have hkx : ∀ a : Nat, a ≠ x → Mi a = M a := fun a h1 => by rw [hMi]; exact hkx a h1
      exact W.iret (v := (nI st.se)) hx hb hr (fun t ht hW => ⟨⟨(nI st.se), (Mi, sz), rfl, ⟨rfl, ⟨pt, Y, hRi⟩, fun q h1 h2 => hkx q h1, rfl⟩, by rw [ht]; exact hH, by rw [ht]; exact hsz⟩, hS.F ht⟩) hS.2.2 dR_look_147
    · obtain ⟨mg, hmg⟩ : ∃ mg, st.fl[i]? = some mg := ⟨_, List.getElem?_eq_getElem b3⟩
      refine lv_iload_n hx hb dR_look_58 rfl (lv_at hl 3 rfl) ?_
      refine lv_aload_n hx hb dR_look_59 rfl (lv_at hl 0 rfl) ?_
      refine lv_aload_n hx hb dR_look_60 rfl (lv_at hl 0 rfl) ?_
      refine va_get (D := G.1) (ci := 2) (v := .ref (z + 5)) (C := RR) (T := TR) (N := 22) hx hb hz iR hown hK (hH.one hx0) 0 rfl rfl 8 (by decide) (hz _ zm_396) (fun _ h9 => h9) rfl dR_look_61 ?_
      refine lv_iload hx hb dR_look_64 (lv_at hl 4 rfl) ?_
      refine zw_iald hx hb hK hH 0 hrw rfl (i) rfl (by omega) (by decide) dR_look_66 ?_
      refine zr_V (As := [.int (nI (Y.rw i))]) (rest := [.int (nI (zsum (zby st) i))]) (q := (RR, TR, 22)) ⟨hx, hb, hml, hown, hz⟩ (kR_bytesOf l G B Mi x z n mb st 0 pt Y hn hRi hok i mg hmg) (zt_V zm_528 zm_530 zs_25 zm_3 zm_531) rfl rfl rfl (show _ ∧ _ ∧ _ ∧ _ = some 1 from by decide +kernel) ⟨Nat.le_of_ble_eq_true rfl, Nat.le_of_ble_eq_true rfl⟩ zE_blind (zE_at hE hS) hH hK hx0 rfl rfl hl.1 rfl (Nat.le_of_ble_eq_true rfl) dR_look_67 ⟨Nat.le_of_ble_eq_true rfl, Nat.le_of_ble_eq_true rfl⟩ ?_
      refine lv_iadd hx hb dR_look_70 ?_
      refine zw_ti (nI_add _ _) ?_
      refine lv_istore_n (lv' := [(3, .int (nI ((zsum (zby st) i) + mg.byt))), (0, .ref x), (1, .int (nI 3)), (2, .int (nI (zsum (fun r => if (st.lg r).length = zsum (fun a => (st.wt a).length) n then 1 else 0) n))), (4, .int (nI i))]) hx hb dR_look_71 rfl hl (by decide) rfl (fun ls hl => ?_)
      refine lv_iinc (v := (nI (i + 1))) (lv' := [(4, .int (nI (i + 1))), (3, .int (nI ((zsum (zby st) i) + mg.byt))), (0, .ref x), (1, .int (nI 3)), (2, .int (nI (zsum (fun r => if (st.lg r).length = zsum (fun a => (st.wt a).length) n then 1 else 0) n)))]) hx hb dR_look_72 hl (k := 4) rfl (nI_add _ _) (by decide) rfl (fun ls hl => ?_)
      refine lv_goto (tgt := 49) hx hb dR_look_75 (by decide) ?_
      exact ih b3 ls Hi _ ⟨lv_sub hl [2, 3, 4, 1, 0] (by rw [show zsum (zby st) (i + 1) = zsum (zby st) i + mg.byt from by show _ + zby st i = _; rw [zby_at hmg]]; rfl), Mi, hH, hS, ⟨hMi, hsz⟩⟩
  · have hli := hok.len b1
    refine lv_iload_n hx hb dR_look_17 rfl (lv_at hl 2 rfl) ?_
    refine lv_aload_n hx hb dR_look_18 rfl (lv_at hl 0 rfl) ?_
    refine va_get (D := G.1) (ci := 2) (v := .ref (z + 4)) (C := RR) (T := TR) (N := 22) hx hb hz iR hown hK (hH.one hx0) 0 rfl rfl 7 (by decide) (hz _ zm_395) (fun _ h9 => h9) rfl dR_look_19 ?_
    refine lv_iload_n hx hb dR_look_22 rfl (lv_at hl 3 rfl) ?_
    refine zw_iald hx hb hK hH 0 hmn rfl (i) rfl (by omega) (by decide) dR_look_23 ?_
    refine lv_aload_n hx hb dR_look_24 rfl (lv_at hl 0 rfl) ?_
    refine zr_V (As := []) (rest := [.int (nI ((st.lg i).length)), .int (nI (zsum (fun r => if (st.lg r).length = zsum (fun a => (st.wt a).length) n then 1 else 0) i))]) (q := (RR, TR, 22)) ⟨hx, hb, hml, hown, hz⟩ (kR_total l G B Mi x z n mb st 0 pt Y hn hRi) (zt_V zm_557 zm_559 zs_26 zm_3 zm_560) rfl rfl rfl (show _ ∧ _ ∧ _ ∧ _ = some 0 from by decide +kernel) ⟨Nat.le_of_ble_eq_true rfl, Nat.le_of_ble_eq_true rfl⟩ zE_blind (zE_at hE hS) hH hK hx0 rfl rfl hl.1 rfl (Nat.le_of_ble_eq_true rfl) dR_look_25 ⟨Nat.le_of_ble_eq_true rfl, Nat.le_of_ble_eq_true rfl⟩ ?_
    refine zc_ne (tgt := 35) hx hb dR_look_28 (by decide) (by omega) (by omega) (fun b2 => ?_) (fun b2 => ?_)
    · refine lv_iconst (v := nI 0) hx hb dR_look_35 (by decide) ?_
      refine lv_iadd hx hb dR_look_36 ?_
      refine zw_ti (nI_add _ _) ?_
      refine lv_istore_n (lv' := [(2, .int (nI ((zsum (fun r => if (st.lg r).length = zsum (fun a => (st.wt a).length) n then 1 else 0) i) + 0))), (0, .ref x), (1, .int (nI 3)), (3, .int (nI i))]) hx hb dR_look_37 rfl hl (by decide) rfl (fun ls hl => ?_)
      refine lv_iinc (v := (nI (i + 1))) (lv' := [(3, .int (nI (i + 1))), (2, .int (nI ((zsum (fun r => if (st.lg r).length = zsum (fun a => (st.wt a).length) n then 1 else 0) i) + 0))), (0, .ref x), (1, .int (nI 3))]) hx hb dR_look_38 hl (k := 3) rfl (nI_add _ _) (by decide) rfl (fun ls hl => ?_)
      refine lv_goto (tgt := 9) hx hb dR_look_41 (by decide) ?_
      exact ih b1 ls Hi _ ⟨lv_sub hl [2, 3, 1, 0] (by rw [show zsum (fun r => if (st.lg r).length = zsum (fun a => (st.wt a).length) n then 1 else 0) (i + 1) = zsum (fun r => if (st.lg r).length = zsum (fun a => (st.wt a).length) n then 1 else 0) i + 0 from by show zsum _ i + (if (st.lg i).length = zsum (fun a => (st.wt a).length) n then 1 else 0) = _; rw [if_neg b2]]; rfl), Mi, hH, hS, ⟨hMi, hsz⟩⟩
    · refine lv_iconst (v := nI 1) hx hb dR_look_31 (by decide) ?_
      refine lv_goto (tgt := 36) hx hb dR_look_32 (by decide) ?_
      refine lv_iadd hx hb dR_look_36 ?_
      refine zw_ti (nI_add _ _) ?_
      refine lv_istore_n (lv' := [(2, .int (nI ((zsum (fun r => if (st.lg r).length = zsum (fun a => (st.wt a).length) n then 1 else 0) i) + 1))), (0, .ref x), (1, .int (nI 3)), (3, .int (nI i))]) hx hb dR_look_37 rfl hl (by decide) rfl (fun ls hl => ?_)
      refine lv_iinc (v := (nI (i + 1))) (lv' := [(3, .int (nI (i + 1))), (2, .int (nI ((zsum (fun r => if (st.lg r).length = zsum (fun a => (st.wt a).length) n then 1 else 0) i) + 1))), (0, .ref x), (1, .int (nI 3))]) hx hb dR_look_38 hl (k := 3) rfl (nI_add _ _) (by decide) rfl (fun ls hl => ?_)
      refine lv_goto (tgt := 9) hx hb dR_look_41 (by decide) ?_
      exact ih b1 ls Hi _ ⟨lv_sub hl [2, 3, 1, 0] (by rw [show zsum (fun r => if (st.lg r).length = zsum (fun a => (st.wt a).length) n then 1 else 0) (i + 1) = zsum (fun r => if (st.lg r).length = zsum (fun a => (st.wt a).length) n then 1 else 0) i + 1 from by show zsum _ i + (if (st.lg i).length = zsum (fun a => (st.wt a).length) n then 1 else 0) = _; rw [if_pos b2]]; rfl), Mi, hH, hS, ⟨hMi, hsz⟩⟩

set_option maxHeartbeats 4000000 in
set_option maxRecDepth 100000 in
theorem kR_look_4 (l : Launch) (G : zG) (B : Nat) (M : zw_M) (sz : Nat) (x z n mb : Nat) (st : zSt) (th pt : Nat) (Y : zRX) (hn : n ≤ 8) (hR : zRR G M x z n mb st th pt Y) (hok : zOK n st) : Met l yR_look (Cond.code yR_look bR_look 5 (some .int) :: zT) { frames := 2, cells := 0, slots := 0, locals := 50 } (zq G B M sz [.ref x, .int (nI 4)]) (va_Qi (fun (r : Int32) (u : zw_M × Nat) => r = nI st.lo ∧ zRO G x z n mb sz M st 0 u) (zr_o G.1 zCl B) (zw_A B)) (0) (0) (zw_A B) := by
  refine Met.ofW (cc := bR_look) (maxL := 5) (ret := (some .int)) (by decide) rfl ?_
  intro p e s m args below meth c s₁ B0 hml hv
  obtain ⟨rfl, hE, hH, hsz⟩ := hv
  have hx := B0.exec
  have hb := B0.bytes
  have hr := B0.returns
  have hlocks := B0.notSynchronized
  have hz : ∀ w ∈ zT, w.before _ s = true := fun w h => atoms_spec (ws := Cond.code yR_look bR_look 5 (some .int) :: zT) B0.pre w (List.mem_cons_of_mem _ h)
  have hown : s.vm.findClass RR = some m.cls := findClass_of_methodNamed B0.named
  have hK := hE.1
  have hl := lv_entry ([.ref x, .int (nI 4)]) (n := 5) (Nat.le_of_ble_eq_true rfl)
  rw [lg_entry_eq]
  generalize (lg_sl ([.ref x, .int (nI 4)]) ++ List.replicate (5 - (lg_sl ([.ref x, .int (nI 4)])).length) Slot.unset).toArray = ls at hl ⊢
  have hl : lv_has ls 5 [(0, .ref x), (1, .int (nI 4))] := hl
  have hS : va_S (zw_A B) s.heap s.heap [] := va_S.rf
  have hin : meth.name = "look" := (name_of_methodNamed B0.named B0.method).1
  have hT := zR_tot hok
  have h120 := hok.fl
  have hx0 := hR.obj
  have hmn := hR.mn
  have hrw := hR.rw
  have hxz := hR.xz
  refine lv_aload_n hx hb dR_look_0 rfl (lv_at hl 0 rfl) ?_
  refine lv_iconst (v := nI 0) hx hb dR_look_1 (by decide) ?_
  refine zw_put (D := G.1) (ci := 2) (v := .int (nI 0)) (ty := .int) (C := RR) (T := TR) (N := 22) hx hb hz iR tR tR_ok nR hown hK hH hS hx0 rfl 0 (by decide) (hz _ zm_388) (fun _ h9 => h9) rfl (by decide +kernel) rfl rfl (Nat.le_of_ble_eq_true rfl) dR_look_2 (fun H1 L1 hH hz1 hS => ?_)
  have hsz : H1.size = sz := hz1.trans hsz
  obtain ⟨M1, hM1⟩ : ∃ Mq, Mq = zw_u M x (.inr (2, zoR 0 n mb z st.fl.length st.se st.lo st.go st.pa pt)) := ⟨_, rfl⟩
  have hH : zw_H G.1 zCl B M1 H1 := by rw [hM1]; exact hH
  have hmn : M1 (z + 4) = some (.inl (G.2.1 0, 8, .inl (fun a9 => nI ((st.lg a9).length)))) := by rw [hM1, zw_un _ _ (by omega)]; exact hmn
  have hrw : M1 (z + 5) = some (.inl (G.2.1 0, 120, .inl (fun a9 => nI (Y.rw a9)))) := by rw [hM1, zw_un _ _ (by omega)]; exact hrw
  have hx0 : M1 x = some (.inr (2, zoR 0 n mb z st.fl.length st.se st.lo st.go st.pa pt)) := by rw [hM1]; exact zw_us _ _ _
  have hkx : ∀ a : Nat, a ≠ x → M1 a = M a := fun a h1 => by rw [hM1, zw_un _ _ h1]
  have hRn : zRR G M1 x z n mb st 0 pt Y := hR.cnt (st' := st) rfl rfl rfl rfl hx0 (fun a e h1 h2 => (hkx a h1).trans h2)
  refine lv_iconst (v := nI 0) hx hb dR_look_5 (by decide) ?_
  refine lv_istore_n (lv' := [(2, .int (nI 0)), (0, .ref x), (1, .int (nI 4))]) hx hb dR_look_6 rfl hl (by decide) rfl (fun ls hl => ?_)
  refine lv_iconst (v := nI 0) hx hb dR_look_7 (by decide) ?_
  refine lv_istore_n (lv' := [(3, .int (nI 0)), (2, .int (nI 0)), (0, .ref x), (1, .int (nI 4))]) hx hb dR_look_8 rfl hl (by decide) rfl (fun ls hl => ?_)
  refine zl_upH (Wg := fun ls H locs => W p l e _ s m _ below meth c H locs 0 0 _ (F0 m 9 ls [])) (fun i ls H locs => lv_has ls 5 [(0, .ref x), (1, .int (nI 4)), (2, .int (nI (zsum (fun r => if (st.lg r).length = zsum (fun a => (st.wt a).length) n then 1 else 0) i))), (3, .int (nI i))] ∧ ∃ Mq : zw_M, zw_H G.1 zCl B Mq H ∧ va_S (zw_A B) s.heap H locs ∧ Mq = M1 ∧ H.size = sz) n ?_ (i := 0) (by omega) ⟨lv_sub hl [2, 3, 1, 0] rfl, M1, hH, hS, ⟨rfl, hsz⟩⟩
  intro i hi ls Hi Li ⟨hl, Mi, hH, hS, hI⟩ ih
  have hl : lv_has ls 5 [(0, .ref x), (1, .int (nI 4)), (2, .int (nI (zsum (fun r => if (st.lg r).length = zsum (fun a => (st.wt a).length) n then 1 else 0) i))), (3, .int (nI i))] := hl
  obtain ⟨hMi, hsz⟩ := hI
  have hRi : zRR G Mi x z n mb st 0 pt Y := by rw [hMi]; exact hRn
  have hx0 := hRi.obj
  have hmn := hRi.mn
  have hrw := hRi.rw
  have hxz := hRi.xz
  refine lv_iload_n hx hb dR_look_9 rfl (lv_at hl 3 rfl) ?_
  refine lv_aload_n hx hb dR_look_10 rfl (lv_at hl 0 rfl) ?_
  refine va_get (D := G.1) (ci := 2) (v := .int (nI n)) (C := RR) (T := TR) (N := 22) hx hb hz iR hown hK (hH.one hx0) 0 rfl rfl 1 (by decide) (hz _ zm_389) (fun _ h9 => h9) rfl dR_look_11 ?_
  refine zc_ge (tgt := 44) hx hb dR_look_14 (by decide) (by omega) (by omega) (fun b1 => ?_) (fun b1 => ?_)
  · have e1 : n = i := by omega
    subst e1
    refine lv_iconst (v := nI 0) hx hb dR_look_44 (by decide) ?_
    refine lv_istore_n (lv' := [(3, .int (nI 0)), (0, .ref x), (1, .int (nI 4)), (2, .int (nI (zsum (fun r => if (st.lg r).length = zsum (fun a => (st.wt a).length) n then 1 else 0) n)))]) hx hb dR_look_45 rfl hl (by decide) rfl (fun ls hl => ?_)
    refine lv_iconst (v := nI 0) hx hb dR_look_46 (by decide) ?_
    refine lv_istore (lv' := [(4, .int (nI 0)), (3, .int (nI 0)), (0, .ref x), (1, .int (nI 4)), (2, .int (nI (zsum (fun r => if (st.lg r).length = zsum (fun a => (st.wt a).length) n then 1 else 0) n)))]) hx hb dR_look_47 hl (by decide) rfl (fun ls hl => ?_)
    obtain ⟨Mo, hMo⟩ : ∃ Mq, Mq = Mi := ⟨_, rfl⟩
    refine zl_upH (Wg := fun ls H locs => W p l e _ s m _ below meth c H locs 0 0 _ (F0 m 49 ls [])) (fun i ls H locs => lv_has ls 5 [(0, .ref x), (1, .int (nI 4)), (2, .int (nI (zsum (fun r => if (st.lg r).length = zsum (fun a => (st.wt a).length) n then 1 else 0) n))), (3, .int (nI (zsum (zby st) i))), (4, .int (nI i))] ∧ ∃ Mq : zw_M, zw_H G.1 zCl B Mq H ∧ va_S (zw_A B) s.heap H locs ∧ Mq = M1 ∧ H.size = sz) st.fl.length ?_ (i := 0) (by omega) ⟨lv_sub hl [2, 3, 4, 1, 0] rfl, Mi, hH, hS, ⟨hMi, hsz⟩⟩
    intro i hi ls Hi Li ⟨hl, Mi, hH, hS, hI⟩ ih
    have hl : lv_has ls 5 [(0, .ref x), (1, .int (nI 4)), (2, .int (nI (zsum (fun r => if (st.lg r).length = zsum (fun a => (st.wt a).length) n then 1 else 0) n))), (3, .int (nI (zsum (zby st) i))), (4, .int (nI i))] := hl
    obtain ⟨hMi, hsz⟩ := hI
    have hRi : zRR G Mi x z n mb st 0 pt Y := by rw [hMi]; exact hRn
    have hx0 := hRi.obj
    have hmn := hRi.mn
    have hrw := hRi.rw
    have hxz := hRi.xz
    refine lv_iload hx hb dR_look_49 (lv_at hl 4 rfl) ?_
    refine lv_aload_n hx hb dR_look_51 rfl (lv_at hl 0 rfl) ?_
    refine va_get (D := G.1) (ci := 2) (v := .int (nI st.fl.length)) (C := RR) (T := TR) (N := 22) hx hb hz iR hown hK (hH.one hx0) 0 rfl rfl 9 (by decide) (hz _ zm_397) (fun _ h9 => h9) rfl dR_look_52 ?_
    refine zc_ge (tgt := 78) hx hb dR_look_55 (by decide) (by omega) (by omega) (fun b3 => ?_) (fun b3 => ?_)
    · have e2 : st.fl.length = i := by omega
      refine lv_iload_n hx hb dR_look_78 rfl (lv_at hl 1 rfl) ?_
      refine lv_tableIn (tgt := 148) hx hb dR_look_79 (by decide) (by decide) rfl (by decide) ?_
      refine lv_aload_n hx hb dR_look_148 rfl (lv_at hl 0 rfl) ?_
      refine va_get (D := G.1) (ci := 2) (v := .int (nI st.lo)) (C := RR) (T := TR) (N := 22) hx hb hz iR hown hK (hH.one hx0) 0 rfl rfl 17 (by decide) (hz _ zm_405) (fun _ h9 => h9) rfl dR_look_149 ?_
      have hkx : ∀ a : Nat, a ≠ x → Mi a = M a := fun a h1 => by rw [hMi]; exact hkx a h1
      exact W.iret (v := (nI st.lo)) hx hb hr (fun t ht hW => ⟨⟨(nI st.lo), (Mi, sz), rfl, ⟨rfl, ⟨pt, Y, hRi⟩, fun q h1 h2 => hkx q h1, rfl⟩, by rw [ht]; exact hH, by rw [ht]; exact hsz⟩, hS.F ht⟩) hS.2.2 dR_look_152
    · obtain ⟨mg, hmg⟩ : ∃ mg, st.fl[i]? = some mg := ⟨_, List.getElem?_eq_getElem b3⟩
      refine lv_iload_n hx hb dR_look_58 rfl (lv_at hl 3 rfl) ?_
      refine lv_aload_n hx hb dR_look_59 rfl (lv_at hl 0 rfl) ?_
      refine lv_aload_n hx hb dR_look_60 rfl (lv_at hl 0 rfl) ?_
      refine va_get (D := G.1) (ci := 2) (v := .ref (z + 5)) (C := RR) (T := TR) (N := 22) hx hb hz iR hown hK (hH.one hx0) 0 rfl rfl 8 (by decide) (hz _ zm_396) (fun _ h9 => h9) rfl dR_look_61 ?_
      refine lv_iload hx hb dR_look_64 (lv_at hl 4 rfl) ?_
      refine zw_iald hx hb hK hH 0 hrw rfl (i) rfl (by omega) (by decide) dR_look_66 ?_
      refine zr_V (As := [.int (nI (Y.rw i))]) (rest := [.int (nI (zsum (zby st) i))]) (q := (RR, TR, 22)) ⟨hx, hb, hml, hown, hz⟩ (kR_bytesOf l G B Mi x z n mb st 0 pt Y hn hRi hok i mg hmg) (zt_V zm_528 zm_530 zs_25 zm_3 zm_531) rfl rfl rfl (show _ ∧ _ ∧ _ ∧ _ = some 1 from by decide +kernel) ⟨Nat.le_of_ble_eq_true rfl, Nat.le_of_ble_eq_true rfl⟩ zE_blind (zE_at hE hS) hH hK hx0 rfl rfl hl.1 rfl (Nat.le_of_ble_eq_true rfl) dR_look_67 ⟨Nat.le_of_ble_eq_true rfl, Nat.le_of_ble_eq_true rfl⟩ ?_
      refine lv_iadd hx hb dR_look_70 ?_
      refine zw_ti (nI_add _ _) ?_
      refine lv_istore_n (lv' := [(3, .int (nI ((zsum (zby st) i) + mg.byt))), (0, .ref x), (1, .int (nI 4)), (2, .int (nI (zsum (fun r => if (st.lg r).length = zsum (fun a => (st.wt a).length) n then 1 else 0) n))), (4, .int (nI i))]) hx hb dR_look_71 rfl hl (by decide) rfl (fun ls hl => ?_)
      refine lv_iinc (v := (nI (i + 1))) (lv' := [(4, .int (nI (i + 1))), (3, .int (nI ((zsum (zby st) i) + mg.byt))), (0, .ref x), (1, .int (nI 4)), (2, .int (nI (zsum (fun r => if (st.lg r).length = zsum (fun a => (st.wt a).length) n then 1 else 0) n)))]) hx hb dR_look_72 hl (k := 4) rfl (nI_add _ _) (by decide) rfl (fun ls hl => ?_)
      refine lv_goto (tgt := 49) hx hb dR_look_75 (by decide) ?_
      exact ih b3 ls Hi _ ⟨lv_sub hl [2, 3, 4, 1, 0] (by rw [show zsum (zby st) (i + 1) = zsum (zby st) i + mg.byt from by show _ + zby st i = _; rw [zby_at hmg]]; rfl), Mi, hH, hS, ⟨hMi, hsz⟩⟩
  · have hli := hok.len b1
    refine lv_iload_n hx hb dR_look_17 rfl (lv_at hl 2 rfl) ?_
    refine lv_aload_n hx hb dR_look_18 rfl (lv_at hl 0 rfl) ?_
    refine va_get (D := G.1) (ci := 2) (v := .ref (z + 4)) (C := RR) (T := TR) (N := 22) hx hb hz iR hown hK (hH.one hx0) 0 rfl rfl 7 (by decide) (hz _ zm_395) (fun _ h9 => h9) rfl dR_look_19 ?_
    refine lv_iload_n hx hb dR_look_22 rfl (lv_at hl 3 rfl) ?_
    refine zw_iald hx hb hK hH 0 hmn rfl (i) rfl (by omega) (by decide) dR_look_23 ?_
    refine lv_aload_n hx hb dR_look_24 rfl (lv_at hl 0 rfl) ?_
    refine zr_V (As := []) (rest := [.int (nI ((st.lg i).length)), .int (nI (zsum (fun r => if (st.lg r).length = zsum (fun a => (st.wt a).length) n then 1 else 0) i))]) (q := (RR, TR, 22)) ⟨hx, hb, hml, hown, hz⟩ (kR_total l G B Mi x z n mb st 0 pt Y hn hRi) (zt_V zm_557 zm_559 zs_26 zm_3 zm_560) rfl rfl rfl (show _ ∧ _ ∧ _ ∧ _ = some 0 from by decide +kernel) ⟨Nat.le_of_ble_eq_true rfl, Nat.le_of_ble_eq_true rfl⟩ zE_blind (zE_at hE hS) hH hK hx0 rfl rfl hl.1 rfl (Nat.le_of_ble_eq_true rfl) dR_look_25 ⟨Nat.le_of_ble_eq_true rfl, Nat.le_of_ble_eq_true rfl⟩ ?_
    refine zc_ne (tgt := 35) hx hb dR_look_28 (by decide) (by omega) (by omega) (fun b2 => ?_) (fun b2 => ?_)
    · refine lv_iconst (v := nI 0) hx hb dR_look_35 (by decide) ?_
      refine lv_iadd hx hb dR_look_36 ?_
      refine zw_ti (nI_add _ _) ?_
      refine lv_istore_n (lv' := [(2, .int (nI ((zsum (fun r => if (st.lg r).length = zsum (fun a => (st.wt a).length) n then 1 else 0) i) + 0))), (0, .ref x), (1, .int (nI 4)), (3, .int (nI i))]) hx hb dR_look_37 rfl hl (by decide) rfl (fun ls hl => ?_)
      refine lv_iinc (v := (nI (i + 1))) (lv' := [(3, .int (nI (i + 1))), (2, .int (nI ((zsum (fun r => if (st.lg r).length = zsum (fun a => (st.wt a).length) n then 1 else 0) i) + 0))), (0, .ref x), (1, .int (nI 4))]) hx hb dR_look_38 hl (k := 3) rfl (nI_add _ _) (by decide) rfl (fun ls hl => ?_)
      refine lv_goto (tgt := 9) hx hb dR_look_41 (by decide) ?_
      exact ih b1 ls Hi _ ⟨lv_sub hl [2, 3, 1, 0] (by rw [show zsum (fun r => if (st.lg r).length = zsum (fun a => (st.wt a).length) n then 1 else 0) (i + 1) = zsum (fun r => if (st.lg r).length = zsum (fun a => (st.wt a).length) n then 1 else 0) i + 0 from by show zsum _ i + (if (st.lg i).length = zsum (fun a => (st.wt a).length) n then 1 else 0) = _; rw [if_neg b2]]; rfl), Mi, hH, hS, ⟨hMi, hsz⟩⟩
    · refine lv_iconst (v := nI 1) hx hb dR_look_31 (by decide) ?_
      refine lv_goto (tgt := 36) hx hb dR_look_32 (by decide) ?_
      refine lv_iadd hx hb dR_look_36 ?_
      refine zw_ti (nI_add _ _) ?_
      refine lv_istore_n (lv' := [(2, .int (nI ((zsum (fun r => if (st.lg r).length = zsum (fun a => (st.wt a).length) n then 1 else 0) i) + 1))), (0, .ref x), (1, .int (nI 4)), (3, .int (nI i))]) hx hb dR_look_37 rfl hl (by decide) rfl (fun ls hl => ?_)
      refine lv_iinc (v := (nI (i + 1))) (lv' := [(3, .int (nI (i + 1))), (2, .int (nI ((zsum (fun r => if (st.lg r).length = zsum (fun a => (st.wt a).length) n then 1 else 0) i) + 1))), (0, .ref x), (1, .int (nI 4))]) hx hb dR_look_38 hl (k := 3) rfl (nI_add _ _) (by decide) rfl (fun ls hl => ?_)
      refine lv_goto (tgt := 9) hx hb dR_look_41 (by decide) ?_
      exact ih b1 ls Hi _ ⟨lv_sub hl [2, 3, 1, 0] (by rw [show zsum (fun r => if (st.lg r).length = zsum (fun a => (st.wt a).length) n then 1 else 0) (i + 1) = zsum (fun r => if (st.lg r).length = zsum (fun a => (st.wt a).length) n then 1 else 0) i + 1 from by show zsum _ i + (if (st.lg i).length = zsum (fun a => (st.wt a).length) n then 1 else 0) = _; rw [if_pos b2]]; rfl), Mi, hH, hS, ⟨hMi, hsz⟩⟩

set_option maxHeartbeats 4000000 in
set_option maxRecDepth 100000 in
theorem kR_look_5 (l : Launch) (G : zG) (B : Nat) (M : zw_M) (sz : Nat) (x z n mb : Nat) (st : zSt) (th pt : Nat) (Y : zRX) (hn : n ≤ 8) (hR : zRR G M x z n mb st th pt Y) (hok : zOK n st) : Met l yR_look (Cond.code yR_look bR_look 5 (some .int) :: zT) { frames := 2, cells := 0, slots := 0, locals := 50 } (zq G B M sz [.ref x, .int (nI 5)]) (va_Qi (fun (r : Int32) (u : zw_M × Nat) => r = nI st.go ∧ zRO G x z n mb sz M st 0 u) (zr_o G.1 zCl B) (zw_A B)) (0) (0) (zw_A B) := by
  refine Met.ofW (cc := bR_look) (maxL := 5) (ret := (some .int)) (by decide) rfl ?_
  intro p e s m args below meth c s₁ B0 hml hv
  obtain ⟨rfl, hE, hH, hsz⟩ := hv
  have hx := B0.exec
  have hb := B0.bytes
  have hr := B0.returns
  have hlocks := B0.notSynchronized
  have hz : ∀ w ∈ zT, w.before _ s = true := fun w h => atoms_spec (ws := Cond.code yR_look bR_look 5 (some .int) :: zT) B0.pre w (List.mem_cons_of_mem _ h)
  have hown : s.vm.findClass RR = some m.cls := findClass_of_methodNamed B0.named
  have hK := hE.1
  have hl := lv_entry ([.ref x, .int (nI 5)]) (n := 5) (Nat.le_of_ble_eq_true rfl)
  rw [lg_entry_eq]
  generalize (lg_sl ([.ref x, .int (nI 5)]) ++ List.replicate (5 - (lg_sl ([.ref x, .int (nI 5)])).length) Slot.unset).toArray = ls at hl ⊢
  have hl : lv_has ls 5 [(0, .ref x), (1, .int (nI 5))] := hl
  have hS : va_S (zw_A B) s.heap s.heap [] := va_S.rf
  have hin : meth.name = "look" := (name_of_methodNamed B0.named B0.method).1
  have hT := zR_tot hok
  have h120 := hok.fl
  have hx0 := hR.obj
  have hmn := hR.mn
  have hrw := hR.rw
  have hxz := hR.xz
  refine lv_aload_n hx hb dR_look_0 rfl (lv_at hl 0 rfl) ?_
  refine lv_iconst (v := nI 0) hx hb dR_look_1 (by decide) ?_
  refine zw_put (D := G.1) (ci := 2) (v := .int (nI 0)) (ty := .int) (C := RR) (T := TR) (N := 22) hx hb hz iR tR tR_ok nR hown hK hH hS hx0 rfl 0 (by decide) (hz _ zm_388) (fun _ h9 => h9) rfl (by decide +kernel) rfl rfl (Nat.le_of_ble_eq_true rfl) dR_look_2 (fun H1 L1 hH hz1 hS => ?_)
  have hsz : H1.size = sz := hz1.trans hsz
  obtain ⟨M1, hM1⟩ : ∃ Mq, Mq = zw_u M x (.inr (2, zoR 0 n mb z st.fl.length st.se st.lo st.go st.pa pt)) := ⟨_, rfl⟩
  have hH : zw_H G.1 zCl B M1 H1 := by rw [hM1]; exact hH
  have hmn : M1 (z + 4) = some (.inl (G.2.1 0, 8, .inl (fun a9 => nI ((st.lg a9).length)))) := by rw [hM1, zw_un _ _ (by omega)]; exact hmn
  have hrw : M1 (z + 5) = some (.inl (G.2.1 0, 120, .inl (fun a9 => nI (Y.rw a9)))) := by rw [hM1, zw_un _ _ (by omega)]; exact hrw
  have hx0 : M1 x = some (.inr (2, zoR 0 n mb z st.fl.length st.se st.lo st.go st.pa pt)) := by rw [hM1]; exact zw_us _ _ _
  have hkx : ∀ a : Nat, a ≠ x → M1 a = M a := fun a h1 => by rw [hM1, zw_un _ _ h1]
  have hRn : zRR G M1 x z n mb st 0 pt Y := hR.cnt (st' := st) rfl rfl rfl rfl hx0 (fun a e h1 h2 => (hkx a h1).trans h2)
  refine lv_iconst (v := nI 0) hx hb dR_look_5 (by decide) ?_
  refine lv_istore_n (lv' := [(2, .int (nI 0)), (0, .ref x), (1, .int (nI 5))]) hx hb dR_look_6 rfl hl (by decide) rfl (fun ls hl => ?_)
  refine lv_iconst (v := nI 0) hx hb dR_look_7 (by decide) ?_
  refine lv_istore_n (lv' := [(3, .int (nI 0)), (2, .int (nI 0)), (0, .ref x), (1, .int (nI 5))]) hx hb dR_look_8 rfl hl (by decide) rfl (fun ls hl => ?_)
  refine zl_upH (Wg := fun ls H locs => W p l e _ s m _ below meth c H locs 0 0 _ (F0 m 9 ls [])) (fun i ls H locs => lv_has ls 5 [(0, .ref x), (1, .int (nI 5)), (2, .int (nI (zsum (fun r => if (st.lg r).length = zsum (fun a => (st.wt a).length) n then 1 else 0) i))), (3, .int (nI i))] ∧ ∃ Mq : zw_M, zw_H G.1 zCl B Mq H ∧ va_S (zw_A B) s.heap H locs ∧ Mq = M1 ∧ H.size = sz) n ?_ (i := 0) (by omega) ⟨lv_sub hl [2, 3, 1, 0] rfl, M1, hH, hS, ⟨rfl, hsz⟩⟩
  intro i hi ls Hi Li ⟨hl, Mi, hH, hS, hI⟩ ih
  have hl : lv_has ls 5 [(0, .ref x), (1, .int (nI 5)), (2, .int (nI (zsum (fun r => if (st.lg r).length = zsum (fun a => (st.wt a).length) n then 1 else 0) i))), (3, .int (nI i))] := hl
  obtain ⟨hMi, hsz⟩ := hI
  have hRi : zRR G Mi x z n mb st 0 pt Y := by rw [hMi]; exact hRn
  have hx0 := hRi.obj
  have hmn := hRi.mn
  have hrw := hRi.rw
  have hxz := hRi.xz
  refine lv_iload_n hx hb dR_look_9 rfl (lv_at hl 3 rfl) ?_
  refine lv_aload_n hx hb dR_look_10 rfl (lv_at hl 0 rfl) ?_
  refine va_get (D := G.1) (ci := 2) (v := .int (nI n)) (C := RR) (T := TR) (N := 22) hx hb hz iR hown hK (hH.one hx0) 0 rfl rfl 1 (by decide) (hz _ zm_389) (fun _ h9 => h9) rfl dR_look_11 ?_
  refine zc_ge (tgt := 44) hx hb dR_look_14 (by decide) (by omega) (by omega) (fun b1 => ?_) (fun b1 => ?_)
  · have e1 : n = i := by omega
    subst e1
    refine lv_iconst (v := nI 0) hx hb dR_look_44 (by decide) ?_
    refine lv_istore_n (lv' := [(3, .int (nI 0)), (0, .ref x), (1, .int (nI 5)), (2, .int (nI (zsum (fun r => if (st.lg r).length = zsum (fun a => (st.wt a).length) n then 1 else 0) n)))]) hx hb dR_look_45 rfl hl (by decide) rfl (fun ls hl => ?_)
    refine lv_iconst (v := nI 0) hx hb dR_look_46 (by decide) ?_
    refine lv_istore (lv' := [(4, .int (nI 0)), (3, .int (nI 0)), (0, .ref x), (1, .int (nI 5)), (2, .int (nI (zsum (fun r => if (st.lg r).length = zsum (fun a => (st.wt a).length) n then 1 else 0) n)))]) hx hb dR_look_47 hl (by decide) rfl (fun ls hl => ?_)
    obtain ⟨Mo, hMo⟩ : ∃ Mq, Mq = Mi := ⟨_, rfl⟩
    refine zl_upH (Wg := fun ls H locs => W p l e _ s m _ below meth c H locs 0 0 _ (F0 m 49 ls [])) (fun i ls H locs => lv_has ls 5 [(0, .ref x), (1, .int (nI 5)), (2, .int (nI (zsum (fun r => if (st.lg r).length = zsum (fun a => (st.wt a).length) n then 1 else 0) n))), (3, .int (nI (zsum (zby st) i))), (4, .int (nI i))] ∧ ∃ Mq : zw_M, zw_H G.1 zCl B Mq H ∧ va_S (zw_A B) s.heap H locs ∧ Mq = M1 ∧ H.size = sz) st.fl.length ?_ (i := 0) (by omega) ⟨lv_sub hl [2, 3, 4, 1, 0] rfl, Mi, hH, hS, ⟨hMi, hsz⟩⟩
    intro i hi ls Hi Li ⟨hl, Mi, hH, hS, hI⟩ ih
    have hl : lv_has ls 5 [(0, .ref x), (1, .int (nI 5)), (2, .int (nI (zsum (fun r => if (st.lg r).length = zsum (fun a => (st.wt a).length) n then 1 else 0) n))), (3, .int (nI (zsum (zby st) i))), (4, .int (nI i))] := hl
    obtain ⟨hMi, hsz⟩ := hI
    have hRi : zRR G Mi x z n mb st 0 pt Y := by rw [hMi]; exact hRn
    have hx0 := hRi.obj
    have hmn := hRi.mn
    have hrw := hRi.rw
    have hxz := hRi.xz
    refine lv_iload hx hb dR_look_49 (lv_at hl 4 rfl) ?_
    refine lv_aload_n hx hb dR_look_51 rfl (lv_at hl 0 rfl) ?_
    refine va_get (D := G.1) (ci := 2) (v := .int (nI st.fl.length)) (C := RR) (T := TR) (N := 22) hx hb hz iR hown hK (hH.one hx0) 0 rfl rfl 9 (by decide) (hz _ zm_397) (fun _ h9 => h9) rfl dR_look_52 ?_
    refine zc_ge (tgt := 78) hx hb dR_look_55 (by decide) (by omega) (by omega) (fun b3 => ?_) (fun b3 => ?_)
    · have e2 : st.fl.length = i := by omega
      refine lv_iload_n hx hb dR_look_78 rfl (lv_at hl 1 rfl) ?_
      refine lv_tableIn (tgt := 153) hx hb dR_look_79 (by decide) (by decide) rfl (by decide) ?_
      refine lv_aload_n hx hb dR_look_153 rfl (lv_at hl 0 rfl) ?_
      refine va_get (D := G.1) (ci := 2) (v := .int (nI st.go)) (C := RR) (T := TR) (N := 22) hx hb hz iR hown hK (hH.one hx0) 0 rfl rfl 18 (by decide) (hz _ zm_406) (fun _ h9 => h9) rfl dR_look_154 ?_
      have hkx : ∀ a : Nat, a ≠ x → Mi a = M a := fun a h1 => by rw [hMi]; exact hkx a h1
      exact W.iret (v := (nI st.go)) hx hb hr (fun t ht hW => ⟨⟨(nI st.go), (Mi, sz), rfl, ⟨rfl, ⟨pt, Y, hRi⟩, fun q h1 h2 => hkx q h1, rfl⟩, by rw [ht]; exact hH, by rw [ht]; exact hsz⟩, hS.F ht⟩) hS.2.2 dR_look_157
    · obtain ⟨mg, hmg⟩ : ∃ mg, st.fl[i]? = some mg := ⟨_, List.getElem?_eq_getElem b3⟩
      refine lv_iload_n hx hb dR_look_58 rfl (lv_at hl 3 rfl) ?_
      refine lv_aload_n hx hb dR_look_59 rfl (lv_at hl 0 rfl) ?_
      refine lv_aload_n hx hb dR_look_60 rfl (lv_at hl 0 rfl) ?_
      refine va_get (D := G.1) (ci := 2) (v := .ref (z + 5)) (C := RR) (T := TR) (N := 22) hx hb hz iR hown hK (hH.one hx0) 0 rfl rfl 8 (by decide) (hz _ zm_396) (fun _ h9 => h9) rfl dR_look_61 ?_
      refine lv_iload hx hb dR_look_64 (lv_at hl 4 rfl) ?_
      refine zw_iald hx hb hK hH 0 hrw rfl (i) rfl (by omega) (by decide) dR_look_66 ?_
      refine zr_V (As := [.int (nI (Y.rw i))]) (rest := [.int (nI (zsum (zby st) i))]) (q := (RR, TR, 22)) ⟨hx, hb, hml, hown, hz⟩ (kR_bytesOf l G B Mi x z n mb st 0 pt Y hn hRi hok i mg hmg) (zt_V zm_528 zm_530 zs_25 zm_3 zm_531) rfl rfl rfl (show _ ∧ _ ∧ _ ∧ _ = some 1 from by decide +kernel) ⟨Nat.le_of_ble_eq_true rfl, Nat.le_of_ble_eq_true rfl⟩ zE_blind (zE_at hE hS) hH hK hx0 rfl rfl hl.1 rfl (Nat.le_of_ble_eq_true rfl) dR_look_67 ⟨Nat.le_of_ble_eq_true rfl, Nat.le_of_ble_eq_true rfl⟩ ?_
      refine lv_iadd hx hb dR_look_70 ?_
      refine zw_ti (nI_add _ _) ?_
      refine lv_istore_n (lv' := [(3, .int (nI ((zsum (zby st) i) + mg.byt))), (0, .ref x), (1, .int (nI 5)), (2, .int (nI (zsum (fun r => if (st.lg r).length = zsum (fun a => (st.wt a).length) n then 1 else 0) n))), (4, .int (nI i))]) hx hb dR_look_71 rfl hl (by decide) rfl (fun ls hl => ?_)
      refine lv_iinc (v := (nI (i + 1))) (lv' := [(4, .int (nI (i + 1))), (3, .int (nI ((zsum (zby st) i) + mg.byt))), (0, .ref x), (1, .int (nI 5)), (2, .int (nI (zsum (fun r => if (st.lg r).length = zsum (fun a => (st.wt a).length) n then 1 else 0) n)))]) hx hb dR_look_72 hl (k := 4) rfl (nI_add _ _) (by decide) rfl (fun ls hl => ?_)
      refine lv_goto (tgt := 49) hx hb dR_look_75 (by decide) ?_
      exact ih b3 ls Hi _ ⟨lv_sub hl [2, 3, 4, 1, 0] (by rw [show zsum (zby st) (i + 1) = zsum (zby st) i + mg.byt from by show _ + zby st i = _; rw [zby_at hmg]]; rfl), Mi, hH, hS, ⟨hMi, hsz⟩⟩
  · have hli := hok.len b1
    refine lv_iload_n hx hb dR_look_17 rfl (lv_at hl 2 rfl) ?_
    refine lv_aload_n hx hb dR_look_18 rfl (lv_at hl 0 rfl) ?_
    refine va_get (D := G.1) (ci := 2) (v := .ref (z + 4)) (C := RR) (T := TR) (N := 22) hx hb hz iR hown hK (hH.one hx0) 0 rfl rfl 7 (by decide) (hz _ zm_395) (fun _ h9 => h9) rfl dR_look_19 ?_
    refine lv_iload_n hx hb dR_look_22 rfl (lv_at hl 3 rfl) ?_
    refine zw_iald hx hb hK hH 0 hmn rfl (i) rfl (by omega) (by decide) dR_look_23 ?_
    refine lv_aload_n hx hb dR_look_24 rfl (lv_at hl 0 rfl) ?_
    refine zr_V (As := []) (rest := [.int (nI ((st.lg i).length)), .int (nI (zsum (fun r => if (st.lg r).length = zsum (fun a => (st.wt a).length) n then 1 else 0) i))]) (q := (RR, TR, 22)) ⟨hx, hb, hml, hown, hz⟩ (kR_total l G B Mi x z n mb st 0 pt Y hn hRi) (zt_V zm_557 zm_559 zs_26 zm_3 zm_560) rfl rfl rfl (show _ ∧ _ ∧ _ ∧ _ = some 0 from by decide +kernel) ⟨Nat.le_of_ble_eq_true rfl, Nat.le_of_ble_eq_true rfl⟩ zE_blind (zE_at hE hS) hH hK hx0 rfl rfl hl.1 rfl (Nat.le_of_ble_eq_true rfl) dR_look_25 ⟨Nat.le_of_ble_eq_true rfl, Nat.le_of_ble_eq_true rfl⟩ ?_
    refine zc_ne (tgt := 35) hx hb dR_look_28 (by decide) (by omega) (by omega) (fun b2 => ?_) (fun b2 => ?_)
    · refine lv_iconst (v := nI 0) hx hb dR_look_35 (by decide) ?_
      refine lv_iadd hx hb dR_look_36 ?_
      refine zw_ti (nI_add _ _) ?_
      refine lv_istore_n (lv' := [(2, .int (nI ((zsum (fun r => if (st.lg r).length = zsum (fun a => (st.wt a).length) n then 1 else 0) i) + 0))), (0, .ref x), (1, .int (nI 5)), (3, .int (nI i))]) hx hb dR_look_37 rfl hl (by decide) rfl (fun ls hl => ?_)
      refine lv_iinc (v := (nI (i + 1))) (lv' := [(3, .int (nI (i + 1))), (2, .int (nI ((zsum (fun r => if (st.lg r).length = zsum (fun a => (st.wt a).length) n then 1 else 0) i) + 0))), (0, .ref x), (1, .int (nI 5))]) hx hb dR_look_38 hl (k := 3) rfl (nI_add _ _) (by decide) rfl (fun ls hl => ?_)
      refine lv_goto (tgt := 9) hx hb dR_look_41 (by decide) ?_
      exact ih b1 ls Hi _ ⟨lv_sub hl [2, 3, 1, 0] (by rw [show zsum (fun r => if (st.lg r).length = zsum (fun a => (st.wt a).length) n then 1 else 0) (i + 1) = zsum (fun r => if (st.lg r).length = zsum (fun a => (st.wt a).length) n then 1 else 0) i + 0 from by show zsum _ i + (if (st.lg i).length = zsum (fun a => (st.wt a).length) n then 1 else 0) = _; rw [if_neg b2]]; rfl), Mi, hH, hS, ⟨hMi, hsz⟩⟩
    · refine lv_iconst (v := nI 1) hx hb dR_look_31 (by decide) ?_
      refine lv_goto (tgt := 36) hx hb dR_look_32 (by decide) ?_
      refine lv_iadd hx hb dR_look_36 ?_
      refine zw_ti (nI_add _ _) ?_
      refine lv_istore_n (lv' := [(2, .int (nI ((zsum (fun r => if (st.lg r).length = zsum (fun a => (st.wt a).length) n then 1 else 0) i) + 1))), (0, .ref x), (1, .int (nI 5)), (3, .int (nI i))]) hx hb dR_look_37 rfl hl (by decide) rfl (fun ls hl => ?_)
      refine lv_iinc (v := (nI (i + 1))) (lv' := [(3, .int (nI (i + 1))), (2, .int (nI ((zsum (fun r => if (st.lg r).length = zsum (fun a => (st.wt a).length) n then 1 else 0) i) + 1))), (0, .ref x), (1, .int (nI 5))]) hx hb dR_look_38 hl (k := 3) rfl (nI_add _ _) (by decide) rfl (fun ls hl => ?_)
      refine lv_goto (tgt := 9) hx hb dR_look_41 (by decide) ?_
      exact ih b1 ls Hi _ ⟨lv_sub hl [2, 3, 1, 0] (by rw [show zsum (fun r => if (st.lg r).length = zsum (fun a => (st.wt a).length) n then 1 else 0) (i + 1) = zsum (fun r => if (st.lg r).length = zsum (fun a => (st.wt a).length) n then 1 else 0) i + 1 from by show zsum _ i + (if (st.lg i).length = zsum (fun a => (st.wt a).length) n then 1 else 0) = _; rw [if_pos b2]]; rfl), Mi, hH, hS, ⟨hMi, hsz⟩⟩

set_option maxHeartbeats 4000000 in
set_option maxRecDepth 100000 in
theorem kR_look_6 (l : Launch) (G : zG) (B : Nat) (M : zw_M) (sz : Nat) (x z n mb : Nat) (st : zSt) (th pt : Nat) (Y : zRX) (hn : n ≤ 8) (hR : zRR G M x z n mb st th pt Y) (hok : zOK n st) : Met l yR_look (Cond.code yR_look bR_look 5 (some .int) :: zT) { frames := 2, cells := 0, slots := 0, locals := 50 } (zq G B M sz [.ref x, .int (nI 6)]) (va_Qi (fun (r : Int32) (u : zw_M × Nat) => r = nI st.pa ∧ zRO G x z n mb sz M st 0 u) (zr_o G.1 zCl B) (zw_A B)) (0) (0) (zw_A B) := by
  refine Met.ofW (cc := bR_look) (maxL := 5) (ret := (some .int)) (by decide) rfl ?_
  intro p e s m args below meth c s₁ B0 hml hv
  obtain ⟨rfl, hE, hH, hsz⟩ := hv
  have hx := B0.exec
  have hb := B0.bytes
  have hr := B0.returns
  have hlocks := B0.notSynchronized
  have hz : ∀ w ∈ zT, w.before _ s = true := fun w h => atoms_spec (ws := Cond.code yR_look bR_look 5 (some .int) :: zT) B0.pre w (List.mem_cons_of_mem _ h)
  have hown : s.vm.findClass RR = some m.cls := findClass_of_methodNamed B0.named
  have hK := hE.1
  have hl := lv_entry ([.ref x, .int (nI 6)]) (n := 5) (Nat.le_of_ble_eq_true rfl)
  rw [lg_entry_eq]
  generalize (lg_sl ([.ref x, .int (nI 6)]) ++ List.replicate (5 - (lg_sl ([.ref x, .int (nI 6)])).length) Slot.unset).toArray = ls at hl ⊢
  have hl : lv_has ls 5 [(0, .ref x), (1, .int (nI 6))] := hl
  have hS : va_S (zw_A B) s.heap s.heap [] := va_S.rf
  have hin : meth.name = "look" := (name_of_methodNamed B0.named B0.method).1
  have hT := zR_tot hok
  have h120 := hok.fl
  have hx0 := hR.obj
  have hmn := hR.mn
  have hrw := hR.rw
  have hxz := hR.xz
  refine lv_aload_n hx hb dR_look_0 rfl (lv_at hl 0 rfl) ?_
  refine lv_iconst (v := nI 0) hx hb dR_look_1 (by decide) ?_
  refine zw_put (D := G.1) (ci := 2) (v := .int (nI 0)) (ty := .int) (C := RR) (T := TR) (N := 22) hx hb hz iR tR tR_ok nR hown hK hH hS hx0 rfl 0 (by decide) (hz _ zm_388) (fun _ h9 => h9) rfl (by decide +kernel) rfl rfl (Nat.le_of_ble_eq_true rfl) dR_look_2 (fun H1 L1 hH hz1 hS => ?_)
  have hsz : H1.size = sz := hz1.trans hsz
  obtain ⟨M1, hM1⟩ : ∃ Mq, Mq = zw_u M x (.inr (2, zoR 0 n mb z st.fl.length st.se st.lo st.go st.pa pt)) := ⟨_, rfl⟩
  have hH : zw_H G.1 zCl B M1 H1 := by rw [hM1]; exact hH
  have hmn : M1 (z + 4) = some (.inl (G.2.1 0, 8, .inl (fun a9 => nI ((st.lg a9).length)))) := by rw [hM1, zw_un _ _ (by omega)]; exact hmn
  have hrw : M1 (z + 5) = some (.inl (G.2.1 0, 120, .inl (fun a9 => nI (Y.rw a9)))) := by rw [hM1, zw_un _ _ (by omega)]; exact hrw
  have hx0 : M1 x = some (.inr (2, zoR 0 n mb z st.fl.length st.se st.lo st.go st.pa pt)) := by rw [hM1]; exact zw_us _ _ _
  have hkx : ∀ a : Nat, a ≠ x → M1 a = M a := fun a h1 => by rw [hM1, zw_un _ _ h1]
  have hRn : zRR G M1 x z n mb st 0 pt Y := hR.cnt (st' := st) rfl rfl rfl rfl hx0 (fun a e h1 h2 => (hkx a h1).trans h2)
  refine lv_iconst (v := nI 0) hx hb dR_look_5 (by decide) ?_
  refine lv_istore_n (lv' := [(2, .int (nI 0)), (0, .ref x), (1, .int (nI 6))]) hx hb dR_look_6 rfl hl (by decide) rfl (fun ls hl => ?_)
  refine lv_iconst (v := nI 0) hx hb dR_look_7 (by decide) ?_
  refine lv_istore_n (lv' := [(3, .int (nI 0)), (2, .int (nI 0)), (0, .ref x), (1, .int (nI 6))]) hx hb dR_look_8 rfl hl (by decide) rfl (fun ls hl => ?_)
  refine zl_upH (Wg := fun ls H locs => W p l e _ s m _ below meth c H locs 0 0 _ (F0 m 9 ls [])) (fun i ls H locs => lv_has ls 5 [(0, .ref x), (1, .int (nI 6)), (2, .int (nI (zsum (fun r => if (st.lg r).length = zsum (fun a => (st.wt a).length) n then 1 else 0) i))), (3, .int (nI i))] ∧ ∃ Mq : zw_M, zw_H G.1 zCl B Mq H ∧ va_S (zw_A B) s.heap H locs ∧ Mq = M1 ∧ H.size = sz) n ?_ (i := 0) (by omega) ⟨lv_sub hl [2, 3, 1, 0] rfl, M1, hH, hS, ⟨rfl, hsz⟩⟩
  intro i hi ls Hi Li ⟨hl, Mi, hH, hS, hI⟩ ih
  have hl : lv_has ls 5 [(0, .ref x), (1, .int (nI 6)), (2, .int (nI (zsum (fun r => if (st.lg r).length = zsum (fun a => (st.wt a).length) n then 1 else 0) i))), (3, .int (nI i))] := hl
  obtain ⟨hMi, hsz⟩ := hI
  have hRi : zRR G Mi x z n mb st 0 pt Y := by rw [hMi]; exact hRn
  have hx0 := hRi.obj
  have hmn := hRi.mn
  have hrw := hRi.rw
  have hxz := hRi.xz
  refine lv_iload_n hx hb dR_look_9 rfl (lv_at hl 3 rfl) ?_
  refine lv_aload_n hx hb dR_look_10 rfl (lv_at hl 0 rfl) ?_
  refine va_get (D := G.1) (ci := 2) (v := .int (nI n)) (C := RR) (T := TR) (N := 22) hx hb hz iR hown hK (hH.one hx0) 0 rfl rfl 1 (by decide) (hz _ zm_389) (fun _ h9 => h9) rfl dR_look_11 ?_
  refine zc_ge (tgt := 44) hx hb dR_look_14 (by decide) (by omega) (by omega) (fun b1 => ?_) (fun b1 => ?_)
  · have e1 : n = i := by omega
    subst e1
    refine lv_iconst (v := nI 0) hx hb dR_look_44 (by decide) ?_
    refine lv_istore_n (lv' := [(3, .int (nI 0)), (0, .ref x), (1, .int (nI 6)), (2, .int (nI (zsum (fun r => if (st.lg r).length = zsum (fun a => (st.wt a).length) n then 1 else 0) n)))]) hx hb dR_look_45 rfl hl (by decide) rfl (fun ls hl => ?_)
    refine lv_iconst (v := nI 0) hx hb dR_look_46 (by decide) ?_
    refine lv_istore (lv' := [(4, .int (nI 0)), (3, .int (nI 0)), (0, .ref x), (1, .int (nI 6)), (2, .int (nI (zsum (fun r => if (st.lg r).length = zsum (fun a => (st.wt a).length) n then 1 else 0) n)))]) hx hb dR_look_47 hl (by decide) rfl (fun ls hl => ?_)
    obtain ⟨Mo, hMo⟩ : ∃ Mq, Mq = Mi := ⟨_, rfl⟩
    refine zl_upH (Wg := fun ls H locs => W p l e _ s m _ below meth c H locs 0 0 _ (F0 m 49 ls [])) (fun i ls H locs => lv_has ls 5 [(0, .ref x), (1, .int (nI 6)), (2, .int (nI (zsum (fun r => if (st.lg r).length = zsum (fun a => (st.wt a).length) n then 1 else 0) n))), (3, .int (nI (zsum (zby st) i))), (4, .int (nI i))] ∧ ∃ Mq : zw_M, zw_H G.1 zCl B Mq H ∧ va_S (zw_A B) s.heap H locs ∧ Mq = M1 ∧ H.size = sz) st.fl.length ?_ (i := 0) (by omega) ⟨lv_sub hl [2, 3, 4, 1, 0] rfl, Mi, hH, hS, ⟨hMi, hsz⟩⟩
    intro i hi ls Hi Li ⟨hl, Mi, hH, hS, hI⟩ ih
    have hl : lv_has ls 5 [(0, .ref x), (1, .int (nI 6)), (2, .int (nI (zsum (fun r => if (st.lg r).length = zsum (fun a => (st.wt a).length) n then 1 else 0) n))), (3, .int (nI (zsum (zby st) i))), (4, .int (nI i))] := hl
    obtain ⟨hMi, hsz⟩ := hI
    have hRi : zRR G Mi x z n mb st 0 pt Y := by rw [hMi]; exact hRn
    have hx0 := hRi.obj
    have hmn := hRi.mn
    have hrw := hRi.rw
    have hxz := hRi.xz
    refine lv_iload hx hb dR_look_49 (lv_at hl 4 rfl) ?_
    refine lv_aload_n hx hb dR_look_51 rfl (lv_at hl 0 rfl) ?_
    refine va_get (D := G.1) (ci := 2) (v := .int (nI st.fl.length)) (C := RR) (T := TR) (N := 22) hx hb hz iR hown hK (hH.one hx0) 0 rfl rfl 9 (by decide) (hz _ zm_397) (fun _ h9 => h9) rfl dR_look_52 ?_
    refine zc_ge (tgt := 78) hx hb dR_look_55 (by decide) (by omega) (by omega) (fun b3 => ?_) (fun b3 => ?_)
    · have e2 : st.fl.length = i := by omega
      refine lv_iload_n hx hb dR_look_78 rfl (lv_at hl 1 rfl) ?_
      refine lv_tableIn (tgt := 158) hx hb dR_look_79 (by decide) (by decide) rfl (by decide) ?_
      refine lv_aload_n hx hb dR_look_158 rfl (lv_at hl 0 rfl) ?_
      refine va_get (D := G.1) (ci := 2) (v := .int (nI st.pa)) (C := RR) (T := TR) (N := 22) hx hb hz iR hown hK (hH.one hx0) 0 rfl rfl 19 (by decide) (hz _ zm_407) (fun _ h9 => h9) rfl dR_look_159 ?_
      have hkx : ∀ a : Nat, a ≠ x → Mi a = M a := fun a h1 => by rw [hMi]; exact hkx a h1
      exact W.iret (v := (nI st.pa)) hx hb hr (fun t ht hW => ⟨⟨(nI st.pa), (Mi, sz), rfl, ⟨rfl, ⟨pt, Y, hRi⟩, fun q h1 h2 => hkx q h1, rfl⟩, by rw [ht]; exact hH, by rw [ht]; exact hsz⟩, hS.F ht⟩) hS.2.2 dR_look_162
    · obtain ⟨mg, hmg⟩ : ∃ mg, st.fl[i]? = some mg := ⟨_, List.getElem?_eq_getElem b3⟩
      refine lv_iload_n hx hb dR_look_58 rfl (lv_at hl 3 rfl) ?_
      refine lv_aload_n hx hb dR_look_59 rfl (lv_at hl 0 rfl) ?_
      refine lv_aload_n hx hb dR_look_60 rfl (lv_at hl 0 rfl) ?_
      refine va_get (D := G.1) (ci := 2) (v := .ref (z + 5)) (C := RR) (T := TR) (N := 22) hx hb hz iR hown hK (hH.one hx0) 0 rfl rfl 8 (by decide) (hz _ zm_396) (fun _ h9 => h9) rfl dR_look_61 ?_
      refine lv_iload hx hb dR_look_64 (lv_at hl 4 rfl) ?_
      refine zw_iald hx hb hK hH 0 hrw rfl (i) rfl (by omega) (by decide) dR_look_66 ?_
      refine zr_V (As := [.int (nI (Y.rw i))]) (rest := [.int (nI (zsum (zby st) i))]) (q := (RR, TR, 22)) ⟨hx, hb, hml, hown, hz⟩ (kR_bytesOf l G B Mi x z n mb st 0 pt Y hn hRi hok i mg hmg) (zt_V zm_528 zm_530 zs_25 zm_3 zm_531) rfl rfl rfl (show _ ∧ _ ∧ _ ∧ _ = some 1 from by decide +kernel) ⟨Nat.le_of_ble_eq_true rfl, Nat.le_of_ble_eq_true rfl⟩ zE_blind (zE_at hE hS) hH hK hx0 rfl rfl hl.1 rfl (Nat.le_of_ble_eq_true rfl) dR_look_67 ⟨Nat.le_of_ble_eq_true rfl, Nat.le_of_ble_eq_true rfl⟩ ?_
      refine lv_iadd hx hb dR_look_70 ?_
      refine zw_ti (nI_add _ _) ?_
      refine lv_istore_n (lv' := [(3, .int (nI ((zsum (zby st) i) + mg.byt))), (0, .ref x), (1, .int (nI 6)), (2, .int (nI (zsum (fun r => if (st.lg r).length = zsum (fun a => (st.wt a).length) n then 1 else 0) n))), (4, .int (nI i))]) hx hb dR_look_71 rfl hl (by decide) rfl (fun ls hl => ?_)
      refine lv_iinc (v := (nI (i + 1))) (lv' := [(4, .int (nI (i + 1))), (3, .int (nI ((zsum (zby st) i) + mg.byt))), (0, .ref x), (1, .int (nI 6)), (2, .int (nI (zsum (fun r => if (st.lg r).length = zsum (fun a => (st.wt a).length) n then 1 else 0) n)))]) hx hb dR_look_72 hl (k := 4) rfl (nI_add _ _) (by decide) rfl (fun ls hl => ?_)
      refine lv_goto (tgt := 49) hx hb dR_look_75 (by decide) ?_
      exact ih b3 ls Hi _ ⟨lv_sub hl [2, 3, 4, 1, 0] (by rw [show zsum (zby st) (i + 1) = zsum (zby st) i + mg.byt from by show _ + zby st i = _; rw [zby_at hmg]]; rfl), Mi, hH, hS, ⟨hMi, hsz⟩⟩
  · have hli := hok.len b1
    refine lv_iload_n hx hb dR_look_17 rfl (lv_at hl 2 rfl) ?_
    refine lv_aload_n hx hb dR_look_18 rfl (lv_at hl 0 rfl) ?_
    refine va_get (D := G.1) (ci := 2) (v := .ref (z + 4)) (C := RR) (T := TR) (N := 22) hx hb hz iR hown hK (hH.one hx0) 0 rfl rfl 7 (by decide) (hz _ zm_395) (fun _ h9 => h9) rfl dR_look_19 ?_
    refine lv_iload_n hx hb dR_look_22 rfl (lv_at hl 3 rfl) ?_
    refine zw_iald hx hb hK hH 0 hmn rfl (i) rfl (by omega) (by decide) dR_look_23 ?_
    refine lv_aload_n hx hb dR_look_24 rfl (lv_at hl 0 rfl) ?_
    refine zr_V (As := []) (rest := [.int (nI ((st.lg i).length)), .int (nI (zsum (fun r => if (st.lg r).length = zsum (fun a => (st.wt a).length) n then 1 else 0) i))]) (q := (RR, TR, 22)) ⟨hx, hb, hml, hown, hz⟩ (kR_total l G B Mi x z n mb st 0 pt Y hn hRi) (zt_V zm_557 zm_559 zs_26 zm_3 zm_560) rfl rfl rfl (show _ ∧ _ ∧ _ ∧ _ = some 0 from by decide +kernel) ⟨Nat.le_of_ble_eq_true rfl, Nat.le_of_ble_eq_true rfl⟩ zE_blind (zE_at hE hS) hH hK hx0 rfl rfl hl.1 rfl (Nat.le_of_ble_eq_true rfl) dR_look_25 ⟨Nat.le_of_ble_eq_true rfl, Nat.le_of_ble_eq_true rfl⟩ ?_
    refine zc_ne (tgt := 35) hx hb dR_look_28 (by decide) (by omega) (by omega) (fun b2 => ?_) (fun b2 => ?_)
    · refine lv_iconst (v := nI 0) hx hb dR_look_35 (by decide) ?_
      refine lv_iadd hx hb dR_look_36 ?_
      refine zw_ti (nI_add _ _) ?_
      refine lv_istore_n (lv' := [(2, .int (nI ((zsum (fun r => if (st.lg r).length = zsum (fun a => (st.wt a).length) n then 1 else 0) i) + 0))), (0, .ref x), (1, .int (nI 6)), (3, .int (nI i))]) hx hb dR_look_37 rfl hl (by decide) rfl (fun ls hl => ?_)
      refine lv_iinc (v := (nI (i + 1))) (lv' := [(3, .int (nI (i + 1))), (2, .int (nI ((zsum (fun r => if (st.lg r).length = zsum (fun a => (st.wt a).length) n then 1 else 0) i) + 0))), (0, .ref x), (1, .int (nI 6))]) hx hb dR_look_38 hl (k := 3) rfl (nI_add _ _) (by decide) rfl (fun ls hl => ?_)
      refine lv_goto (tgt := 9) hx hb dR_look_41 (by decide) ?_
      exact ih b1 ls Hi _ ⟨lv_sub hl [2, 3, 1, 0] (by rw [show zsum (fun r => if (st.lg r).length = zsum (fun a => (st.wt a).length) n then 1 else 0) (i + 1) = zsum (fun r => if (st.lg r).length = zsum (fun a => (st.wt a).length) n then 1 else 0) i + 0 from by show zsum _ i + (if (st.lg i).length = zsum (fun a => (st.wt a).length) n then 1 else 0) = _; rw [if_neg b2]]; rfl), Mi, hH, hS, ⟨hMi, hsz⟩⟩
    · refine lv_iconst (v := nI 1) hx hb dR_look_31 (by decide) ?_
      refine lv_goto (tgt := 36) hx hb dR_look_32 (by decide) ?_
      refine lv_iadd hx hb dR_look_36 ?_
      refine zw_ti (nI_add _ _) ?_
      refine lv_istore_n (lv' := [(2, .int (nI ((zsum (fun r => if (st.lg r).length = zsum (fun a => (st.wt a).length) n then 1 else 0) i) + 1))), (0, .ref x), (1, .int (nI 6)), (3, .int (nI i))]) hx hb dR_look_37 rfl hl (by decide) rfl (fun ls hl => ?_)
      refine lv_iinc (v := (nI (i + 1))) (lv' := [(3, .int (nI (i + 1))), (2, .int (nI ((zsum (fun r => if (st.lg r).length = zsum (fun a => (st.wt a).length) n then 1 else 0) i) + 1))), (0, .ref x), (1, .int (nI 6))]) hx hb dR_look_38 hl (k := 3) rfl (nI_add _ _) (by decide) rfl (fun ls hl => ?_)
      refine lv_goto (tgt := 9) hx hb dR_look_41 (by decide) ?_
      exact ih b1 ls Hi _ ⟨lv_sub hl [2, 3, 1, 0] (by rw [show zsum (fun r => if (st.lg r).length = zsum (fun a => (st.wt a).length) n then 1 else 0) (i + 1) = zsum (fun r => if (st.lg r).length = zsum (fun a => (st.wt a).length) n then 1 else 0) i + 1 from by show zsum _ i + (if (st.lg i).length = zsum (fun a => (st.wt a).length) n then 1 else 0) = _; rw [if_pos b2]]; rfl), Mi, hH, hS, ⟨hMi, hsz⟩⟩

set_option maxHeartbeats 4000000 in
set_option maxRecDepth 100000 in
theorem kR_look_7 (l : Launch) (G : zG) (B : Nat) (M : zw_M) (sz : Nat) (x z n mb : Nat) (st : zSt) (th pt : Nat) (Y : zRX) (hn : n ≤ 8) (hR : zRR G M x z n mb st th pt Y) (hok : zOK n st) : Met l yR_look (Cond.code yR_look bR_look 5 (some .int) :: zT) { frames := 2, cells := 0, slots := 0, locals := 50 } (zq G B M sz [.ref x, .int (nI 7)]) (va_Qi (fun (r : Int32) (u : zw_M × Nat) => r = nI (zsum (fun r => if (st.lg r).length = zsum (fun a => (st.wt a).length) n then 1 else 0) n) ∧ zRO G x z n mb sz M st 0 u) (zr_o G.1 zCl B) (zw_A B)) (0) (0) (zw_A B) := by
  refine Met.ofW (cc := bR_look) (maxL := 5) (ret := (some .int)) (by decide) rfl ?_
  intro p e s m args below meth c s₁ B0 hml hv
  obtain ⟨rfl, hE, hH, hsz⟩ := hv
  have hx := B0.exec
  have hb := B0.bytes
  have hr := B0.returns
  have hlocks := B0.notSynchronized
  have hz : ∀ w ∈ zT, w.before _ s = true := fun w h => atoms_spec (ws := Cond.code yR_look bR_look 5 (some .int) :: zT) B0.pre w (List.mem_cons_of_mem _ h)
  have hown : s.vm.findClass RR = some m.cls := findClass_of_methodNamed B0.named
  have hK := hE.1
  have hl := lv_entry ([.ref x, .int (nI 7)]) (n := 5) (Nat.le_of_ble_eq_true rfl)
  rw [lg_entry_eq]
  generalize (lg_sl ([.ref x, .int (nI 7)]) ++ List.replicate (5 - (lg_sl ([.ref x, .int (nI 7)])).length) Slot.unset).toArray = ls at hl ⊢
  have hl : lv_has ls 5 [(0, .ref x), (1, .int (nI 7))] := hl
  have hS : va_S (zw_A B) s.heap s.heap [] := va_S.rf
  have hin : meth.name = "look" := (name_of_methodNamed B0.named B0.method).1
  have hT := zR_tot hok
  have h120 := hok.fl
  have hx0 := hR.obj
  have hmn := hR.mn
  have hrw := hR.rw
  have hxz := hR.xz
  refine lv_aload_n hx hb dR_look_0 rfl (lv_at hl 0 rfl) ?_
  refine lv_iconst (v := nI 0) hx hb dR_look_1 (by decide) ?_
  refine zw_put (D := G.1) (ci := 2) (v := .int (nI 0)) (ty := .int) (C := RR) (T := TR) (N := 22) hx hb hz iR tR tR_ok nR hown hK hH hS hx0 rfl 0 (by decide) (hz _ zm_388) (fun _ h9 => h9) rfl (by decide +kernel) rfl rfl (Nat.le_of_ble_eq_true rfl) dR_look_2 (fun H1 L1 hH hz1 hS => ?_)
  have hsz : H1.size = sz := hz1.trans hsz
  obtain ⟨M1, hM1⟩ : ∃ Mq, Mq = zw_u M x (.inr (2, zoR 0 n mb z st.fl.length st.se st.lo st.go st.pa pt)) := ⟨_, rfl⟩
  have hH : zw_H G.1 zCl B M1 H1 := by rw [hM1]; exact hH
  have hmn : M1 (z + 4) = some (.inl (G.2.1 0, 8, .inl (fun a9 => nI ((st.lg a9).length)))) := by rw [hM1, zw_un _ _ (by omega)]; exact hmn
  have hrw : M1 (z + 5) = some (.inl (G.2.1 0, 120, .inl (fun a9 => nI (Y.rw a9)))) := by rw [hM1, zw_un _ _ (by omega)]; exact hrw
  have hx0 : M1 x = some (.inr (2, zoR 0 n mb z st.fl.length st.se st.lo st.go st.pa pt)) := by rw [hM1]; exact zw_us _ _ _
  have hkx : ∀ a : Nat, a ≠ x → M1 a = M a := fun a h1 => by rw [hM1, zw_un _ _ h1]
  have hRn : zRR G M1 x z n mb st 0 pt Y := hR.cnt (st' := st) rfl rfl rfl rfl hx0 (fun a e h1 h2 => (hkx a h1).trans h2)
  refine lv_iconst (v := nI 0) hx hb dR_look_5 (by decide) ?_
  refine lv_istore_n (lv' := [(2, .int (nI 0)), (0, .ref x), (1, .int (nI 7))]) hx hb dR_look_6 rfl hl (by decide) rfl (fun ls hl => ?_)
  refine lv_iconst (v := nI 0) hx hb dR_look_7 (by decide) ?_
  refine lv_istore_n (lv' := [(3, .int (nI 0)), (2, .int (nI 0)), (0, .ref x), (1, .int (nI 7))]) hx hb dR_look_8 rfl hl (by decide) rfl (fun ls hl => ?_)
  refine zl_upH (Wg := fun ls H locs => W p l e _ s m _ below meth c H locs 0 0 _ (F0 m 9 ls [])) (fun i ls H locs => lv_has ls 5 [(0, .ref x), (1, .int (nI 7)), (2, .int (nI (zsum (fun r => if (st.lg r).length = zsum (fun a => (st.wt a).length) n then 1 else 0) i))), (3, .int (nI i))] ∧ ∃ Mq : zw_M, zw_H G.1 zCl B Mq H ∧ va_S (zw_A B) s.heap H locs ∧ Mq = M1 ∧ H.size = sz) n ?_ (i := 0) (by omega) ⟨lv_sub hl [2, 3, 1, 0] rfl, M1, hH, hS, ⟨rfl, hsz⟩⟩
  intro i hi ls Hi Li ⟨hl, Mi, hH, hS, hI⟩ ih
  have hl : lv_has ls 5 [(0, .ref x), (1, .int (nI 7)), (2, .int (nI (zsum (fun r => if (st.lg r).length = zsum (fun a => (st.wt a).length) n then 1 else 0) i))), (3, .int (nI i))] := hl
  obtain ⟨hMi, hsz⟩ := hI
  have hRi : zRR G Mi x z n mb st 0 pt Y := by rw [hMi]; exact hRn
  have hx0 := hRi.obj
  have hmn := hRi.mn
  have hrw := hRi.rw
  have hxz := hRi.xz
  refine lv_iload_n hx hb dR_look_9 rfl (lv_at hl 3 rfl) ?_
  refine lv_aload_n hx hb dR_look_10 rfl (lv_at hl 0 rfl) ?_
  refine va_get (D := G.1) (ci := 2) (v := .int (nI n)) (C := RR) (T := TR) (N := 22) hx hb hz iR hown hK (hH.one hx0) 0 rfl rfl 1 (by decide) (hz _ zm_389) (fun _ h9 => h9) rfl dR_look_11 ?_
  refine zc_ge (tgt := 44) hx hb dR_look_14 (by decide) (by omega) (by omega) (fun b1 => ?_) (fun b1 => ?_)
  · have e1 : n = i := by omega
    subst e1
    refine lv_iconst (v := nI 0) hx hb dR_look_44 (by decide) ?_
    refine lv_istore_n (lv' := [(3, .int (nI 0)), (0, .ref x), (1, .int (nI 7)), (2, .int (nI (zsum (fun r => if (st.lg r).length = zsum (fun a => (st.wt a).length) n then 1 else 0) n)))]) hx hb dR_look_45 rfl hl (by decide) rfl (fun ls hl => ?_)
    refine lv_iconst (v := nI 0) hx hb dR_look_46 (by decide) ?_
    refine lv_istore (lv' := [(4, .int (nI 0)), (3, .int (nI 0)), (0, .ref x), (1, .int (nI 7)), (2, .int (nI (zsum (fun r => if (st.lg r).length = zsum (fun a => (st.wt a).length) n then 1 else 0) n)))]) hx hb dR_look_47 hl (by decide) rfl (fun ls hl => ?_)
    obtain ⟨Mo, hMo⟩ : ∃ Mq, Mq = Mi := ⟨_, rfl⟩
    refine zl_upH (Wg := fun ls H locs => W p l e _ s m _ below meth c H locs 0 0 _ (F0 m 49 ls [])) (fun i ls H locs => lv_has ls 5 [(0, .ref x), (1, .int (nI 7)), (2, .int (nI (zsum (fun r => if (st.lg r).length = zsum (fun a => (st.wt a).length) n then 1 else 0) n))), (3, .int (nI (zsum (zby st) i))), (4, .int (nI i))] ∧ ∃ Mq : zw_M, zw_H G.1 zCl B Mq H ∧ va_S (zw_A B) s.heap H locs ∧ Mq = M1 ∧ H.size = sz) st.fl.length ?_ (i := 0) (by omega) ⟨lv_sub hl [2, 3, 4, 1, 0] rfl, Mi, hH, hS, ⟨hMi, hsz⟩⟩
    intro i hi ls Hi Li ⟨hl, Mi, hH, hS, hI⟩ ih
    have hl : lv_has ls 5 [(0, .ref x), (1, .int (nI 7)), (2, .int (nI (zsum (fun r => if (st.lg r).length = zsum (fun a => (st.wt a).length) n then 1 else 0) n))), (3, .int (nI (zsum (zby st) i))), (4, .int (nI i))] := hl
    obtain ⟨hMi, hsz⟩ := hI
    have hRi : zRR G Mi x z n mb st 0 pt Y := by rw [hMi]; exact hRn
    have hx0 := hRi.obj
    have hmn := hRi.mn
    have hrw := hRi.rw
    have hxz := hRi.xz
    refine lv_iload hx hb dR_look_49 (lv_at hl 4 rfl) ?_
    refine lv_aload_n hx hb dR_look_51 rfl (lv_at hl 0 rfl) ?_
    refine va_get (D := G.1) (ci := 2) (v := .int (nI st.fl.length)) (C := RR) (T := TR) (N := 22) hx hb hz iR hown hK (hH.one hx0) 0 rfl rfl 9 (by decide) (hz _ zm_397) (fun _ h9 => h9) rfl dR_look_52 ?_
    refine zc_ge (tgt := 78) hx hb dR_look_55 (by decide) (by omega) (by omega) (fun b3 => ?_) (fun b3 => ?_)
    · have e2 : st.fl.length = i := by omega
      refine lv_iload_n hx hb dR_look_78 rfl (lv_at hl 1 rfl) ?_
      refine lv_tableIn (tgt := 163) hx hb dR_look_79 (by decide) (by decide) rfl (by decide) ?_
      refine lv_iload_n hx hb dR_look_163 rfl (lv_at hl 2 rfl) ?_
      have hkx : ∀ a : Nat, a ≠ x → Mi a = M a := fun a h1 => by rw [hMi]; exact hkx a h1
      exact W.iret (v := (nI (zsum (fun r => if (st.lg r).length = zsum (fun a => (st.wt a).length) n then 1 else 0) n))) hx hb hr (fun t ht hW => ⟨⟨(nI (zsum (fun r => if (st.lg r).length = zsum (fun a => (st.wt a).length) n then 1 else 0) n)), (Mi, sz), rfl, ⟨rfl, ⟨pt, Y, hRi⟩, fun q h1 h2 => hkx q h1, rfl⟩, by rw [ht]; exact hH, by rw [ht]; exact hsz⟩, hS.F ht⟩) hS.2.2 dR_look_164
    · obtain ⟨mg, hmg⟩ : ∃ mg, st.fl[i]? = some mg := ⟨_, List.getElem?_eq_getElem b3⟩
      refine lv_iload_n hx hb dR_look_58 rfl (lv_at hl 3 rfl) ?_
      refine lv_aload_n hx hb dR_look_59 rfl (lv_at hl 0 rfl) ?_
      refine lv_aload_n hx hb dR_look_60 rfl (lv_at hl 0 rfl) ?_
      refine va_get (D := G.1) (ci := 2) (v := .ref (z + 5)) (C := RR) (T := TR) (N := 22) hx hb hz iR hown hK (hH.one hx0) 0 rfl rfl 8 (by decide) (hz _ zm_396) (fun _ h9 => h9) rfl dR_look_61 ?_
      refine lv_iload hx hb dR_look_64 (lv_at hl 4 rfl) ?_
      refine zw_iald hx hb hK hH 0 hrw rfl (i) rfl (by omega) (by decide) dR_look_66 ?_
      refine zr_V (As := [.int (nI (Y.rw i))]) (rest := [.int (nI (zsum (zby st) i))]) (q := (RR, TR, 22)) ⟨hx, hb, hml, hown, hz⟩ (kR_bytesOf l G B Mi x z n mb st 0 pt Y hn hRi hok i mg hmg) (zt_V zm_528 zm_530 zs_25 zm_3 zm_531) rfl rfl rfl (show _ ∧ _ ∧ _ ∧ _ = some 1 from by decide +kernel) ⟨Nat.le_of_ble_eq_true rfl, Nat.le_of_ble_eq_true rfl⟩ zE_blind (zE_at hE hS) hH hK hx0 rfl rfl hl.1 rfl (Nat.le_of_ble_eq_true rfl) dR_look_67 ⟨Nat.le_of_ble_eq_true rfl, Nat.le_of_ble_eq_true rfl⟩ ?_
      refine lv_iadd hx hb dR_look_70 ?_
      refine zw_ti (nI_add _ _) ?_
      refine lv_istore_n (lv' := [(3, .int (nI ((zsum (zby st) i) + mg.byt))), (0, .ref x), (1, .int (nI 7)), (2, .int (nI (zsum (fun r => if (st.lg r).length = zsum (fun a => (st.wt a).length) n then 1 else 0) n))), (4, .int (nI i))]) hx hb dR_look_71 rfl hl (by decide) rfl (fun ls hl => ?_)
      refine lv_iinc (v := (nI (i + 1))) (lv' := [(4, .int (nI (i + 1))), (3, .int (nI ((zsum (zby st) i) + mg.byt))), (0, .ref x), (1, .int (nI 7)), (2, .int (nI (zsum (fun r => if (st.lg r).length = zsum (fun a => (st.wt a).length) n then 1 else 0) n)))]) hx hb dR_look_72 hl (k := 4) rfl (nI_add _ _) (by decide) rfl (fun ls hl => ?_)
      refine lv_goto (tgt := 49) hx hb dR_look_75 (by decide) ?_
      exact ih b3 ls Hi _ ⟨lv_sub hl [2, 3, 4, 1, 0] (by rw [show zsum (zby st) (i + 1) = zsum (zby st) i + mg.byt from by show _ + zby st i = _; rw [zby_at hmg]]; rfl), Mi, hH, hS, ⟨hMi, hsz⟩⟩
  · have hli := hok.len b1
    refine lv_iload_n hx hb dR_look_17 rfl (lv_at hl 2 rfl) ?_
    refine lv_aload_n hx hb dR_look_18 rfl (lv_at hl 0 rfl) ?_
    refine va_get (D := G.1) (ci := 2) (v := .ref (z + 4)) (C := RR) (T := TR) (N := 22) hx hb hz iR hown hK (hH.one hx0) 0 rfl rfl 7 (by decide) (hz _ zm_395) (fun _ h9 => h9) rfl dR_look_19 ?_
    refine lv_iload_n hx hb dR_look_22 rfl (lv_at hl 3 rfl) ?_
    refine zw_iald hx hb hK hH 0 hmn rfl (i) rfl (by omega) (by decide) dR_look_23 ?_
    refine lv_aload_n hx hb dR_look_24 rfl (lv_at hl 0 rfl) ?_
    refine zr_V (As := []) (rest := [.int (nI ((st.lg i).length)), .int (nI (zsum (fun r => if (st.lg r).length = zsum (fun a => (st.wt a).length) n then 1 else 0) i))]) (q := (RR, TR, 22)) ⟨hx, hb, hml, hown, hz⟩ (kR_total l G B Mi x z n mb st 0 pt Y hn hRi) (zt_V zm_557 zm_559 zs_26 zm_3 zm_560) rfl rfl rfl (show _ ∧ _ ∧ _ ∧ _ = some 0 from by decide +kernel) ⟨Nat.le_of_ble_eq_true rfl, Nat.le_of_ble_eq_true rfl⟩ zE_blind (zE_at hE hS) hH hK hx0 rfl rfl hl.1 rfl (Nat.le_of_ble_eq_true rfl) dR_look_25 ⟨Nat.le_of_ble_eq_true rfl, Nat.le_of_ble_eq_true rfl⟩ ?_
    refine zc_ne (tgt := 35) hx hb dR_look_28 (by decide) (by omega) (by omega) (fun b2 => ?_) (fun b2 => ?_)
    · refine lv_iconst (v := nI 0) hx hb dR_look_35 (by decide) ?_
      refine lv_iadd hx hb dR_look_36 ?_
      refine zw_ti (nI_add _ _) ?_
      refine lv_istore_n (lv' := [(2, .int (nI ((zsum (fun r => if (st.lg r).length = zsum (fun a => (st.wt a).length) n then 1 else 0) i) + 0))), (0, .ref x), (1, .int (nI 7)), (3, .int (nI i))]) hx hb dR_look_37 rfl hl (by decide) rfl (fun ls hl => ?_)
      refine lv_iinc (v := (nI (i + 1))) (lv' := [(3, .int (nI (i + 1))), (2, .int (nI ((zsum (fun r => if (st.lg r).length = zsum (fun a => (st.wt a).length) n then 1 else 0) i) + 0))), (0, .ref x), (1, .int (nI 7))]) hx hb dR_look_38 hl (k := 3) rfl (nI_add _ _) (by decide) rfl (fun ls hl => ?_)
      refine lv_goto (tgt := 9) hx hb dR_look_41 (by decide) ?_
      exact ih b1 ls Hi _ ⟨lv_sub hl [2, 3, 1, 0] (by rw [show zsum (fun r => if (st.lg r).length = zsum (fun a => (st.wt a).length) n then 1 else 0) (i + 1) = zsum (fun r => if (st.lg r).length = zsum (fun a => (st.wt a).length) n then 1 else 0) i + 0 from by show zsum _ i + (if (st.lg i).length = zsum (fun a => (st.wt a).length) n then 1 else 0) = _; rw [if_neg b2]]; rfl), Mi, hH, hS, ⟨hMi, hsz⟩⟩
    · refine lv_iconst (v := nI 1) hx hb dR_look_31 (by decide) ?_
      refine lv_goto (tgt := 36) hx hb dR_look_32 (by decide) ?_
      refine lv_iadd hx hb dR_look_36 ?_
      refine zw_ti (nI_add _ _) ?_
      refine lv_istore_n (lv' := [(2, .int (nI ((zsum (fun r => if (st.lg r).length = zsum (fun a => (st.wt a).length) n then 1 else 0) i) + 1))), (0, .ref x), (1, .int (nI 7)), (3, .int (nI i))]) hx hb dR_look_37 rfl hl (by decide) rfl (fun ls hl => ?_)
      refine lv_iinc (v := (nI (i + 1))) (lv' := [(3, .int (nI (i + 1))), (2, .int (nI ((zsum (fun r => if (st.lg r).length = zsum (fun a => (st.wt a).length) n then 1 else 0) i) + 1))), (0, .ref x), (1, .int (nI 7))]) hx hb dR_look_38 hl (k := 3) rfl (nI_add _ _) (by decide) rfl (fun ls hl => ?_)
      refine lv_goto (tgt := 9) hx hb dR_look_41 (by decide) ?_
      exact ih b1 ls Hi _ ⟨lv_sub hl [2, 3, 1, 0] (by rw [show zsum (fun r => if (st.lg r).length = zsum (fun a => (st.wt a).length) n then 1 else 0) (i + 1) = zsum (fun r => if (st.lg r).length = zsum (fun a => (st.wt a).length) n then 1 else 0) i + 1 from by show zsum _ i + (if (st.lg i).length = zsum (fun a => (st.wt a).length) n then 1 else 0) = _; rw [if_pos b2]]; rfl), Mi, hH, hS, ⟨hMi, hsz⟩⟩

set_option maxHeartbeats 4000000 in
set_option maxRecDepth 100000 in
theorem kR_look_8 (l : Launch) (G : zG) (B : Nat) (M : zw_M) (sz : Nat) (x z n mb : Nat) (st : zSt) (th pt : Nat) (Y : zRX) (hn : n ≤ 8) (hR : zRR G M x z n mb st th pt Y) (hok : zOK n st) : Met l yR_look (Cond.code yR_look bR_look 5 (some .int) :: zT) { frames := 2, cells := 0, slots := 0, locals := 50 } (zq G B M sz [.ref x, .int (nI 8)]) (va_Qi (fun (r : Int32) (u : zw_M × Nat) => r = nI (zsum (zby st) st.fl.length) ∧ zRO G x z n mb sz M st 0 u) (zr_o G.1 zCl B) (zw_A B)) (0) (0) (zw_A B) := by
  refine Met.ofW (cc := bR_look) (maxL := 5) (ret := (some .int)) (by decide) rfl ?_
  intro p e s m args below meth c s₁ B0 hml hv
  obtain ⟨rfl, hE, hH, hsz⟩ := hv
  have hx := B0.exec
  have hb := B0.bytes
  have hr := B0.returns
  have hlocks := B0.notSynchronized
  have hz : ∀ w ∈ zT, w.before _ s = true := fun w h => atoms_spec (ws := Cond.code yR_look bR_look 5 (some .int) :: zT) B0.pre w (List.mem_cons_of_mem _ h)
  have hown : s.vm.findClass RR = some m.cls := findClass_of_methodNamed B0.named
  have hK := hE.1
  have hl := lv_entry ([.ref x, .int (nI 8)]) (n := 5) (Nat.le_of_ble_eq_true rfl)
  rw [lg_entry_eq]
  generalize (lg_sl ([.ref x, .int (nI 8)]) ++ List.replicate (5 - (lg_sl ([.ref x, .int (nI 8)])).length) Slot.unset).toArray = ls at hl ⊢
  have hl : lv_has ls 5 [(0, .ref x), (1, .int (nI 8))] := hl
  have hS : va_S (zw_A B) s.heap s.heap [] := va_S.rf
  have hin : meth.name = "look" := (name_of_methodNamed B0.named B0.method).1
  have hT := zR_tot hok
  have h120 := hok.fl
  have hx0 := hR.obj
  have hmn := hR.mn
  have hrw := hR.rw
  have hxz := hR.xz
  refine lv_aload_n hx hb dR_look_0 rfl (lv_at hl 0 rfl) ?_
  refine lv_iconst (v := nI 0) hx hb dR_look_1 (by decide) ?_
  refine zw_put (D := G.1) (ci := 2) (v := .int (nI 0)) (ty := .int) (C := RR) (T := TR) (N := 22) hx hb hz iR tR tR_ok nR hown hK hH hS hx0 rfl 0 (by decide) (hz _ zm_388) (fun _ h9 => h9) rfl (by decide +kernel) rfl rfl (Nat.le_of_ble_eq_true rfl) dR_look_2 (fun H1 L1 hH hz1 hS => ?_)
  have hsz : H1.size = sz := hz1.trans hsz
  obtain ⟨M1, hM1⟩ : ∃ Mq, Mq = zw_u M x (.inr (2, zoR 0 n mb z st.fl.length st.se st.lo st.go st.pa pt)) := ⟨_, rfl⟩
  have hH : zw_H G.1 zCl B M1 H1 := by rw [hM1]; exact hH
  have hmn : M1 (z + 4) = some (.inl (G.2.1 0, 8, .inl (fun a9 => nI ((st.lg a9).length)))) := by rw [hM1, zw_un _ _ (by omega)]; exact hmn
  have hrw : M1 (z + 5) = some (.inl (G.2.1 0, 120, .inl (fun a9 => nI (Y.rw a9)))) := by rw [hM1, zw_un _ _ (by omega)]; exact hrw
  have hx0 : M1 x = some (.inr (2, zoR 0 n mb z st.fl.length st.se st.lo st.go st.pa pt)) := by rw [hM1]; exact zw_us _ _ _
  have hkx : ∀ a : Nat, a ≠ x → M1 a = M a := fun a h1 => by rw [hM1, zw_un _ _ h1]
  have hRn : zRR G M1 x z n mb st 0 pt Y := hR.cnt (st' := st) rfl rfl rfl rfl hx0 (fun a e h1 h2 => (hkx a h1).trans h2)
  refine lv_iconst (v := nI 0) hx hb dR_look_5 (by decide) ?_
  refine lv_istore_n (lv' := [(2, .int (nI 0)), (0, .ref x), (1, .int (nI 8))]) hx hb dR_look_6 rfl hl (by decide) rfl (fun ls hl => ?_)
  refine lv_iconst (v := nI 0) hx hb dR_look_7 (by decide) ?_
  refine lv_istore_n (lv' := [(3, .int (nI 0)), (2, .int (nI 0)), (0, .ref x), (1, .int (nI 8))]) hx hb dR_look_8 rfl hl (by decide) rfl (fun ls hl => ?_)
  refine zl_upH (Wg := fun ls H locs => W p l e _ s m _ below meth c H locs 0 0 _ (F0 m 9 ls [])) (fun i ls H locs => lv_has ls 5 [(0, .ref x), (1, .int (nI 8)), (2, .int (nI (zsum (fun r => if (st.lg r).length = zsum (fun a => (st.wt a).length) n then 1 else 0) i))), (3, .int (nI i))] ∧ ∃ Mq : zw_M, zw_H G.1 zCl B Mq H ∧ va_S (zw_A B) s.heap H locs ∧ Mq = M1 ∧ H.size = sz) n ?_ (i := 0) (by omega) ⟨lv_sub hl [2, 3, 1, 0] rfl, M1, hH, hS, ⟨rfl, hsz⟩⟩
  intro i hi ls Hi Li ⟨hl, Mi, hH, hS, hI⟩ ih
  have hl : lv_has ls 5 [(0, .ref x), (1, .int (nI 8)), (2, .int (nI (zsum (fun r => if (st.lg r).length = zsum (fun a => (st.wt a).length) n then 1 else 0) i))), (3, .int (nI i))] := hl
  obtain ⟨hMi, hsz⟩ := hI
  have hRi : zRR G Mi x z n mb st 0 pt Y := by rw [hMi]; exact hRn
  have hx0 := hRi.obj
  have hmn := hRi.mn
  have hrw := hRi.rw
  have hxz := hRi.xz
  refine lv_iload_n hx hb dR_look_9 rfl (lv_at hl 3 rfl) ?_
  refine lv_aload_n hx hb dR_look_10 rfl (lv_at hl 0 rfl) ?_
  refine va_get (D := G.1) (ci := 2) (v := .int (nI n)) (C := RR) (T := TR) (N := 22) hx hb hz iR hown hK (hH.one hx0) 0 rfl rfl 1 (by decide) (hz _ zm_389) (fun _ h9 => h9) rfl dR_look_11 ?_
  refine zc_ge (tgt := 44) hx hb dR_look_14 (by decide) (by omega) (by omega) (fun b1 => ?_) (fun b1 => ?_)
  · have e1 : n = i := by omega
    subst e1
    refine lv_iconst (v := nI 0) hx hb dR_look_44 (by decide) ?_
    refine lv_istore_n (lv' := [(3, .int (nI 0)), (0, .ref x), (1, .int (nI 8)), (2, .int (nI (zsum (fun r => if (st.lg r).length = zsum (fun a => (st.wt a).length) n then 1 else 0) n)))]) hx hb dR_look_45 rfl hl (by decide) rfl (fun ls hl => ?_)
    refine lv_iconst (v := nI 0) hx hb dR_look_46 (by decide) ?_
    refine lv_istore (lv' := [(4, .int (nI 0)), (3, .int (nI 0)), (0, .ref x), (1, .int (nI 8)), (2, .int (nI (zsum (fun r => if (st.lg r).length = zsum (fun a => (st.wt a).length) n then 1 else 0) n)))]) hx hb dR_look_47 hl (by decide) rfl (fun ls hl => ?_)
    obtain ⟨Mo, hMo⟩ : ∃ Mq, Mq = Mi := ⟨_, rfl⟩
    refine zl_upH (Wg := fun ls H locs => W p l e _ s m _ below meth c H locs 0 0 _ (F0 m 49 ls [])) (fun i ls H locs => lv_has ls 5 [(0, .ref x), (1, .int (nI 8)), (2, .int (nI (zsum (fun r => if (st.lg r).length = zsum (fun a => (st.wt a).length) n then 1 else 0) n))), (3, .int (nI (zsum (zby st) i))), (4, .int (nI i))] ∧ ∃ Mq : zw_M, zw_H G.1 zCl B Mq H ∧ va_S (zw_A B) s.heap H locs ∧ Mq = M1 ∧ H.size = sz) st.fl.length ?_ (i := 0) (by omega) ⟨lv_sub hl [2, 3, 4, 1, 0] rfl, Mi, hH, hS, ⟨hMi, hsz⟩⟩
    intro i hi ls Hi Li ⟨hl, Mi, hH, hS, hI⟩ ih
    have hl : lv_has ls 5 [(0, .ref x), (1, .int (nI 8)), (2, .int (nI (zsum (fun r => if (st.lg r).length = zsum (fun a => (st.wt a).length) n then 1 else 0) n))), (3, .int (nI (zsum (zby st) i))), (4, .int (nI i))] := hl
    obtain ⟨hMi, hsz⟩ := hI
    have hRi : zRR G Mi x z n mb st 0 pt Y := by rw [hMi]; exact hRn
    have hx0 := hRi.obj
    have hmn := hRi.mn
    have hrw := hRi.rw
    have hxz := hRi.xz
    refine lv_iload hx hb dR_look_49 (lv_at hl 4 rfl) ?_
    refine lv_aload_n hx hb dR_look_51 rfl (lv_at hl 0 rfl) ?_
    refine va_get (D := G.1) (ci := 2) (v := .int (nI st.fl.length)) (C := RR) (T := TR) (N := 22) hx hb hz iR hown hK (hH.one hx0) 0 rfl rfl 9 (by decide) (hz _ zm_397) (fun _ h9 => h9) rfl dR_look_52 ?_
    refine zc_ge (tgt := 78) hx hb dR_look_55 (by decide) (by omega) (by omega) (fun b3 => ?_) (fun b3 => ?_)
    · have e2 : st.fl.length = i := by omega
      refine lv_iload_n hx hb dR_look_78 rfl (lv_at hl 1 rfl) ?_
      refine lv_tableIn (tgt := 165) hx hb dR_look_79 (by decide) (by decide) rfl (by decide) ?_
      refine lv_iload_n hx hb dR_look_165 rfl (lv_at hl 3 rfl) ?_
      have hkx : ∀ a : Nat, a ≠ x → Mi a = M a := fun a h1 => by rw [hMi]; exact hkx a h1
      rw [e2]
      exact W.iret (v := (nI (zsum (zby st) i))) hx hb hr (fun t ht hW => ⟨⟨(nI (zsum (zby st) i)), (Mi, sz), rfl, ⟨rfl, ⟨pt, Y, hRi⟩, fun q h1 h2 => hkx q h1, rfl⟩, by rw [ht]; exact hH, by rw [ht]; exact hsz⟩, hS.F ht⟩) hS.2.2 dR_look_166
    · obtain ⟨mg, hmg⟩ : ∃ mg, st.fl[i]? = some mg := ⟨_, List.getElem?_eq_getElem b3⟩
      refine lv_iload_n hx hb dR_look_58 rfl (lv_at hl 3 rfl) ?_
      refine lv_aload_n hx hb dR_look_59 rfl (lv_at hl 0 rfl) ?_
      refine lv_aload_n hx hb dR_look_60 rfl (lv_at hl 0 rfl) ?_
      refine va_get (D := G.1) (ci := 2) (v := .ref (z + 5)) (C := RR) (T := TR) (N := 22) hx hb hz iR hown hK (hH.one hx0) 0 rfl rfl 8 (by decide) (hz _ zm_396) (fun _ h9 => h9) rfl dR_look_61 ?_
      refine lv_iload hx hb dR_look_64 (lv_at hl 4 rfl) ?_
      refine zw_iald hx hb hK hH 0 hrw rfl (i) rfl (by omega) (by decide) dR_look_66 ?_
      refine zr_V (As := [.int (nI (Y.rw i))]) (rest := [.int (nI (zsum (zby st) i))]) (q := (RR, TR, 22)) ⟨hx, hb, hml, hown, hz⟩ (kR_bytesOf l G B Mi x z n mb st 0 pt Y hn hRi hok i mg hmg) (zt_V zm_528 zm_530 zs_25 zm_3 zm_531) rfl rfl rfl (show _ ∧ _ ∧ _ ∧ _ = some 1 from by decide +kernel) ⟨Nat.le_of_ble_eq_true rfl, Nat.le_of_ble_eq_true rfl⟩ zE_blind (zE_at hE hS) hH hK hx0 rfl rfl hl.1 rfl (Nat.le_of_ble_eq_true rfl) dR_look_67 ⟨Nat.le_of_ble_eq_true rfl, Nat.le_of_ble_eq_true rfl⟩ ?_
      refine lv_iadd hx hb dR_look_70 ?_
      refine zw_ti (nI_add _ _) ?_
      refine lv_istore_n (lv' := [(3, .int (nI ((zsum (zby st) i) + mg.byt))), (0, .ref x), (1, .int (nI 8)), (2, .int (nI (zsum (fun r => if (st.lg r).length = zsum (fun a => (st.wt a).length) n then 1 else 0) n))), (4, .int (nI i))]) hx hb dR_look_71 rfl hl (by decide) rfl (fun ls hl => ?_)
      refine lv_iinc (v := (nI (i + 1))) (lv' := [(4, .int (nI (i + 1))), (3, .int (nI ((zsum (zby st) i) + mg.byt))), (0, .ref x), (1, .int (nI 8)), (2, .int (nI (zsum (fun r => if (st.lg r).length = zsum (fun a => (st.wt a).length) n then 1 else 0) n)))]) hx hb dR_look_72 hl (k := 4) rfl (nI_add _ _) (by decide) rfl (fun ls hl => ?_)
      refine lv_goto (tgt := 49) hx hb dR_look_75 (by decide) ?_
      exact ih b3 ls Hi _ ⟨lv_sub hl [2, 3, 4, 1, 0] (by rw [show zsum (zby st) (i + 1) = zsum (zby st) i + mg.byt from by show _ + zby st i = _; rw [zby_at hmg]]; rfl), Mi, hH, hS, ⟨hMi, hsz⟩⟩
  · have hli := hok.len b1
    refine lv_iload_n hx hb dR_look_17 rfl (lv_at hl 2 rfl) ?_
    refine lv_aload_n hx hb dR_look_18 rfl (lv_at hl 0 rfl) ?_
    refine va_get (D := G.1) (ci := 2) (v := .ref (z + 4)) (C := RR) (T := TR) (N := 22) hx hb hz iR hown hK (hH.one hx0) 0 rfl rfl 7 (by decide) (hz _ zm_395) (fun _ h9 => h9) rfl dR_look_19 ?_
    refine lv_iload_n hx hb dR_look_22 rfl (lv_at hl 3 rfl) ?_
    refine zw_iald hx hb hK hH 0 hmn rfl (i) rfl (by omega) (by decide) dR_look_23 ?_
    refine lv_aload_n hx hb dR_look_24 rfl (lv_at hl 0 rfl) ?_
    refine zr_V (As := []) (rest := [.int (nI ((st.lg i).length)), .int (nI (zsum (fun r => if (st.lg r).length = zsum (fun a => (st.wt a).length) n then 1 else 0) i))]) (q := (RR, TR, 22)) ⟨hx, hb, hml, hown, hz⟩ (kR_total l G B Mi x z n mb st 0 pt Y hn hRi) (zt_V zm_557 zm_559 zs_26 zm_3 zm_560) rfl rfl rfl (show _ ∧ _ ∧ _ ∧ _ = some 0 from by decide +kernel) ⟨Nat.le_of_ble_eq_true rfl, Nat.le_of_ble_eq_true rfl⟩ zE_blind (zE_at hE hS) hH hK hx0 rfl rfl hl.1 rfl (Nat.le_of_ble_eq_true rfl) dR_look_25 ⟨Nat.le_of_ble_eq_true rfl, Nat.le_of_ble_eq_true rfl⟩ ?_
    refine zc_ne (tgt := 35) hx hb dR_look_28 (by decide) (by omega) (by omega) (fun b2 => ?_) (fun b2 => ?_)
    · refine lv_iconst (v := nI 0) hx hb dR_look_35 (by decide) ?_
      refine lv_iadd hx hb dR_look_36 ?_
      refine zw_ti (nI_add _ _) ?_
      refine lv_istore_n (lv' := [(2, .int (nI ((zsum (fun r => if (st.lg r).length = zsum (fun a => (st.wt a).length) n then 1 else 0) i) + 0))), (0, .ref x), (1, .int (nI 8)), (3, .int (nI i))]) hx hb dR_look_37 rfl hl (by decide) rfl (fun ls hl => ?_)
      refine lv_iinc (v := (nI (i + 1))) (lv' := [(3, .int (nI (i + 1))), (2, .int (nI ((zsum (fun r => if (st.lg r).length = zsum (fun a => (st.wt a).length) n then 1 else 0) i) + 0))), (0, .ref x), (1, .int (nI 8))]) hx hb dR_look_38 hl (k := 3) rfl (nI_add _ _) (by decide) rfl (fun ls hl => ?_)
      refine lv_goto (tgt := 9) hx hb dR_look_41 (by decide) ?_
      exact ih b1 ls Hi _ ⟨lv_sub hl [2, 3, 1, 0] (by rw [show zsum (fun r => if (st.lg r).length = zsum (fun a => (st.wt a).length) n then 1 else 0) (i + 1) = zsum (fun r => if (st.lg r).length = zsum (fun a => (st.wt a).length) n then 1 else 0) i + 0 from by show zsum _ i + (if (st.lg i).length = zsum (fun a => (st.wt a).length) n then 1 else 0) = _; rw [if_neg b2]]; rfl), Mi, hH, hS, ⟨hMi, hsz⟩⟩
    · refine lv_iconst (v := nI 1) hx hb dR_look_31 (by decide) ?_
      refine lv_goto (tgt := 36) hx hb dR_look_32 (by decide) ?_
      refine lv_iadd hx hb dR_look_36 ?_
      refine zw_ti (nI_add _ _) ?_
      refine lv_istore_n (lv' := [(2, .int (nI ((zsum (fun r => if (st.lg r).length = zsum (fun a => (st.wt a).length) n then 1 else 0) i) + 1))), (0, .ref x), (1, .int (nI 8)), (3, .int (nI i))]) hx hb dR_look_37 rfl hl (by decide) rfl (fun ls hl => ?_)
      refine lv_iinc (v := (nI (i + 1))) (lv' := [(3, .int (nI (i + 1))), (2, .int (nI ((zsum (fun r => if (st.lg r).length = zsum (fun a => (st.wt a).length) n then 1 else 0) i) + 1))), (0, .ref x), (1, .int (nI 8))]) hx hb dR_look_38 hl (k := 3) rfl (nI_add _ _) (by decide) rfl (fun ls hl => ?_)
      refine lv_goto (tgt := 9) hx hb dR_look_41 (by decide) ?_
      exact ih b1 ls Hi _ ⟨lv_sub hl [2, 3, 1, 0] (by rw [show zsum (fun r => if (st.lg r).length = zsum (fun a => (st.wt a).length) n then 1 else 0) (i + 1) = zsum (fun r => if (st.lg r).length = zsum (fun a => (st.wt a).length) n then 1 else 0) i + 1 from by show zsum _ i + (if (st.lg i).length = zsum (fun a => (st.wt a).length) n then 1 else 0) = _; rw [if_pos b2]]; rfl), Mi, hH, hS, ⟨hMi, hsz⟩⟩

set_option maxHeartbeats 4000000 in
set_option maxRecDepth 100000 in
theorem kR_look_out (l : Launch) (G : zG) (B : Nat) (M : zw_M) (sz : Nat) (x z n mb : Nat) (st : zSt) (th pt : Nat) (Y : zRX) (hn : n ≤ 8) (hR : zRR G M x z n mb st th pt Y) (hok : zOK n st) (a : Int32) (ha : a < 0 ∨ nI 9 ≤ a) : Met l yR_look (Cond.code yR_look bR_look 5 (some .int) :: zT) { frames := 2, cells := 0, slots := 0, locals := 50 } (zq G B M sz [.ref x, .int a]) (va_Qi (fun (r : Int32) (u : zw_M × Nat) => r = -1 ∧ zRO G x z n mb sz M st 0 u) (zr_o G.1 zCl B) (zw_A B)) (0) (0) (zw_A B) := by
  refine Met.ofW (cc := bR_look) (maxL := 5) (ret := (some .int)) (by decide) rfl ?_
  intro p e s m args below meth c s₁ B0 hml hv
  obtain ⟨rfl, hE, hH, hsz⟩ := hv
  have hx := B0.exec
  have hb := B0.bytes
  have hr := B0.returns
  have hlocks := B0.notSynchronized
  have hz : ∀ w ∈ zT, w.before _ s = true := fun w h => atoms_spec (ws := Cond.code yR_look bR_look 5 (some .int) :: zT) B0.pre w (List.mem_cons_of_mem _ h)
  have hown : s.vm.findClass RR = some m.cls := findClass_of_methodNamed B0.named
  have hK := hE.1
  have hl := lv_entry ([.ref x, .int a]) (n := 5) (Nat.le_of_ble_eq_true rfl)
  rw [lg_entry_eq]
  generalize (lg_sl ([.ref x, .int a]) ++ List.replicate (5 - (lg_sl ([.ref x, .int a])).length) Slot.unset).toArray = ls at hl ⊢
  have hl : lv_has ls 5 [(0, .ref x), (1, .int a)] := hl
  have hS : va_S (zw_A B) s.heap s.heap [] := va_S.rf
  have hin : meth.name = "look" := (name_of_methodNamed B0.named B0.method).1
  have hT := zR_tot hok
  have h120 := hok.fl
  have hx0 := hR.obj
  have hmn := hR.mn
  have hrw := hR.rw
  have hxz := hR.xz
  refine lv_aload_n hx hb dR_look_0 rfl (lv_at hl 0 rfl) ?_
  refine lv_iconst (v := nI 0) hx hb dR_look_1 (by decide) ?_
  refine zw_put (D := G.1) (ci := 2) (v := .int (nI 0)) (ty := .int) (C := RR) (T := TR) (N := 22) hx hb hz iR tR tR_ok nR hown hK hH hS hx0 rfl 0 (by decide) (hz _ zm_388) (fun _ h9 => h9) rfl (by decide +kernel) rfl rfl (Nat.le_of_ble_eq_true rfl) dR_look_2 (fun H1 L1 hH hz1 hS => ?_)
  have hsz : H1.size = sz := hz1.trans hsz
  obtain ⟨M1, hM1⟩ : ∃ Mq, Mq = zw_u M x (.inr (2, zoR 0 n mb z st.fl.length st.se st.lo st.go st.pa pt)) := ⟨_, rfl⟩
  have hH : zw_H G.1 zCl B M1 H1 := by rw [hM1]; exact hH
  have hmn : M1 (z + 4) = some (.inl (G.2.1 0, 8, .inl (fun a9 => nI ((st.lg a9).length)))) := by rw [hM1, zw_un _ _ (by omega)]; exact hmn
  have hrw : M1 (z + 5) = some (.inl (G.2.1 0, 120, .inl (fun a9 => nI (Y.rw a9)))) := by rw [hM1, zw_un _ _ (by omega)]; exact hrw
  have hx0 : M1 x = some (.inr (2, zoR 0 n mb z st.fl.length st.se st.lo st.go st.pa pt)) := by rw [hM1]; exact zw_us _ _ _
  have hkx : ∀ a : Nat, a ≠ x → M1 a = M a := fun a h1 => by rw [hM1, zw_un _ _ h1]
  have hRn : zRR G M1 x z n mb st 0 pt Y := hR.cnt (st' := st) rfl rfl rfl rfl hx0 (fun a e h1 h2 => (hkx a h1).trans h2)
  refine lv_iconst (v := nI 0) hx hb dR_look_5 (by decide) ?_
  refine lv_istore_n (lv' := [(2, .int (nI 0)), (0, .ref x), (1, .int a)]) hx hb dR_look_6 rfl hl (by decide) rfl (fun ls hl => ?_)
  refine lv_iconst (v := nI 0) hx hb dR_look_7 (by decide) ?_
  refine lv_istore_n (lv' := [(3, .int (nI 0)), (2, .int (nI 0)), (0, .ref x), (1, .int a)]) hx hb dR_look_8 rfl hl (by decide) rfl (fun ls hl => ?_)
  refine zl_upH (Wg := fun ls H locs => W p l e _ s m _ below meth c H locs 0 0 _ (F0 m 9 ls [])) (fun i ls H locs => lv_has ls 5 [(0, .ref x), (1, .int a), (2, .int (nI (zsum (fun r => if (st.lg r).length = zsum (fun a => (st.wt a).length) n then 1 else 0) i))), (3, .int (nI i))] ∧ ∃ Mq : zw_M, zw_H G.1 zCl B Mq H ∧ va_S (zw_A B) s.heap H locs ∧ Mq = M1 ∧ H.size = sz) n ?_ (i := 0) (by omega) ⟨lv_sub hl [2, 3, 1, 0] rfl, M1, hH, hS, ⟨rfl, hsz⟩⟩
  intro i hi ls Hi Li ⟨hl, Mi, hH, hS, hI⟩ ih
  have hl : lv_has ls 5 [(0, .ref x), (1, .int a), (2, .int (nI (zsum (fun r => if (st.lg r).length = zsum (fun a => (st.wt a).length) n then 1 else 0) i))), (3, .int (nI i))] := hl
  obtain ⟨hMi, hsz⟩ := hI
  have hRi : zRR G Mi x z n mb st 0 pt Y := by rw [hMi]; exact hRn
  have hx0 := hRi.obj
  have hmn := hRi.mn
  have hrw := hRi.rw
  have hxz := hRi.xz
  refine lv_iload_n hx hb dR_look_9 rfl (lv_at hl 3 rfl) ?_
  refine lv_aload_n hx hb dR_look_10 rfl (lv_at hl 0 rfl) ?_
  refine va_get (D := G.1) (ci := 2) (v := .int (nI n)) (C := RR) (T := TR) (N := 22) hx hb hz iR hown hK (hH.one hx0) 0 rfl rfl 1 (by decide) (hz _ zm_389) (fun _ h9 => h9) rfl dR_look_11 ?_
  refine zc_ge (tgt := 44) hx hb dR_look_14 (by decide) (by omega) (by omega) (fun b1 => ?_) (fun b1 => ?_)
  · have e1 : n = i := by omega
    subst e1
    refine lv_iconst (v := nI 0) hx hb dR_look_44 (by decide) ?_
    refine lv_istore_n (lv' := [(3, .int (nI 0)), (0, .ref x), (1, .int a), (2, .int (nI (zsum (fun r => if (st.lg r).length = zsum (fun a => (st.wt a).length) n then 1 else 0) n)))]) hx hb dR_look_45 rfl hl (by decide) rfl (fun ls hl => ?_)
    refine lv_iconst (v := nI 0) hx hb dR_look_46 (by decide) ?_
    refine lv_istore (lv' := [(4, .int (nI 0)), (3, .int (nI 0)), (0, .ref x), (1, .int a), (2, .int (nI (zsum (fun r => if (st.lg r).length = zsum (fun a => (st.wt a).length) n then 1 else 0) n)))]) hx hb dR_look_47 hl (by decide) rfl (fun ls hl => ?_)
    obtain ⟨Mo, hMo⟩ : ∃ Mq, Mq = Mi := ⟨_, rfl⟩
    refine zl_upH (Wg := fun ls H locs => W p l e _ s m _ below meth c H locs 0 0 _ (F0 m 49 ls [])) (fun i ls H locs => lv_has ls 5 [(0, .ref x), (1, .int a), (2, .int (nI (zsum (fun r => if (st.lg r).length = zsum (fun a => (st.wt a).length) n then 1 else 0) n))), (3, .int (nI (zsum (zby st) i))), (4, .int (nI i))] ∧ ∃ Mq : zw_M, zw_H G.1 zCl B Mq H ∧ va_S (zw_A B) s.heap H locs ∧ Mq = M1 ∧ H.size = sz) st.fl.length ?_ (i := 0) (by omega) ⟨lv_sub hl [2, 3, 4, 1, 0] rfl, Mi, hH, hS, ⟨hMi, hsz⟩⟩
    intro i hi ls Hi Li ⟨hl, Mi, hH, hS, hI⟩ ih
    have hl : lv_has ls 5 [(0, .ref x), (1, .int a), (2, .int (nI (zsum (fun r => if (st.lg r).length = zsum (fun a => (st.wt a).length) n then 1 else 0) n))), (3, .int (nI (zsum (zby st) i))), (4, .int (nI i))] := hl
    obtain ⟨hMi, hsz⟩ := hI
    have hRi : zRR G Mi x z n mb st 0 pt Y := by rw [hMi]; exact hRn
    have hx0 := hRi.obj
    have hmn := hRi.mn
    have hrw := hRi.rw
    have hxz := hRi.xz
    refine lv_iload hx hb dR_look_49 (lv_at hl 4 rfl) ?_
    refine lv_aload_n hx hb dR_look_51 rfl (lv_at hl 0 rfl) ?_
    refine va_get (D := G.1) (ci := 2) (v := .int (nI st.fl.length)) (C := RR) (T := TR) (N := 22) hx hb hz iR hown hK (hH.one hx0) 0 rfl rfl 9 (by decide) (hz _ zm_397) (fun _ h9 => h9) rfl dR_look_52 ?_
    refine zc_ge (tgt := 78) hx hb dR_look_55 (by decide) (by omega) (by omega) (fun b3 => ?_) (fun b3 => ?_)
    · have e2 : st.fl.length = i := by omega
      refine lv_iload_n hx hb dR_look_78 rfl (lv_at hl 1 rfl) ?_
      refine lv_tableOut (tgt := 167) hx hb dR_look_79 (zlook_out ha) (by decide) ?_
      refine lv_iconst (v := (-1)) hx hb dR_look_167 (by decide) ?_
      have hkx : ∀ a : Nat, a ≠ x → Mi a = M a := fun a h1 => by rw [hMi]; exact hkx a h1
      exact W.iret (v := (-1)) hx hb hr (fun t ht hW => ⟨⟨(-1), (Mi, sz), rfl, ⟨rfl, ⟨pt, Y, hRi⟩, fun q h1 h2 => hkx q h1, rfl⟩, by rw [ht]; exact hH, by rw [ht]; exact hsz⟩, hS.F ht⟩) hS.2.2 dR_look_168
    · obtain ⟨mg, hmg⟩ : ∃ mg, st.fl[i]? = some mg := ⟨_, List.getElem?_eq_getElem b3⟩
      refine lv_iload_n hx hb dR_look_58 rfl (lv_at hl 3 rfl) ?_
      refine lv_aload_n hx hb dR_look_59 rfl (lv_at hl 0 rfl) ?_
      refine lv_aload_n hx hb dR_look_60 rfl (lv_at hl 0 rfl) ?_
      refine va_get (D := G.1) (ci := 2) (v := .ref (z + 5)) (C := RR) (T := TR) (N := 22) hx hb hz iR hown hK (hH.one hx0) 0 rfl rfl 8 (by decide) (hz _ zm_396) (fun _ h9 => h9) rfl dR_look_61 ?_
      refine lv_iload hx hb dR_look_64 (lv_at hl 4 rfl) ?_
      refine zw_iald hx hb hK hH 0 hrw rfl (i) rfl (by omega) (by decide) dR_look_66 ?_
      refine zr_V (As := [.int (nI (Y.rw i))]) (rest := [.int (nI (zsum (zby st) i))]) (q := (RR, TR, 22)) ⟨hx, hb, hml, hown, hz⟩ (kR_bytesOf l G B Mi x z n mb st 0 pt Y hn hRi hok i mg hmg) (zt_V zm_528 zm_530 zs_25 zm_3 zm_531) rfl rfl rfl (show _ ∧ _ ∧ _ ∧ _ = some 1 from by decide +kernel) ⟨Nat.le_of_ble_eq_true rfl, Nat.le_of_ble_eq_true rfl⟩ zE_blind (zE_at hE hS) hH hK hx0 rfl rfl hl.1 rfl (Nat.le_of_ble_eq_true rfl) dR_look_67 ⟨Nat.le_of_ble_eq_true rfl, Nat.le_of_ble_eq_true rfl⟩ ?_
      refine lv_iadd hx hb dR_look_70 ?_
      refine zw_ti (nI_add _ _) ?_
      refine lv_istore_n (lv' := [(3, .int (nI ((zsum (zby st) i) + mg.byt))), (0, .ref x), (1, .int a), (2, .int (nI (zsum (fun r => if (st.lg r).length = zsum (fun a => (st.wt a).length) n then 1 else 0) n))), (4, .int (nI i))]) hx hb dR_look_71 rfl hl (by decide) rfl (fun ls hl => ?_)
      refine lv_iinc (v := (nI (i + 1))) (lv' := [(4, .int (nI (i + 1))), (3, .int (nI ((zsum (zby st) i) + mg.byt))), (0, .ref x), (1, .int a), (2, .int (nI (zsum (fun r => if (st.lg r).length = zsum (fun a => (st.wt a).length) n then 1 else 0) n)))]) hx hb dR_look_72 hl (k := 4) rfl (nI_add _ _) (by decide) rfl (fun ls hl => ?_)
      refine lv_goto (tgt := 49) hx hb dR_look_75 (by decide) ?_
      exact ih b3 ls Hi _ ⟨lv_sub hl [2, 3, 4, 1, 0] (by rw [show zsum (zby st) (i + 1) = zsum (zby st) i + mg.byt from by show _ + zby st i = _; rw [zby_at hmg]]; rfl), Mi, hH, hS, ⟨hMi, hsz⟩⟩
  · have hli := hok.len b1
    refine lv_iload_n hx hb dR_look_17 rfl (lv_at hl 2 rfl) ?_
    refine lv_aload_n hx hb dR_look_18 rfl (lv_at hl 0 rfl) ?_
    refine va_get (D := G.1) (ci := 2) (v := .ref (z + 4)) (C := RR) (T := TR) (N := 22) hx hb hz iR hown hK (hH.one hx0) 0 rfl rfl 7 (by decide) (hz _ zm_395) (fun _ h9 => h9) rfl dR_look_19 ?_
    refine lv_iload_n hx hb dR_look_22 rfl (lv_at hl 3 rfl) ?_
    refine zw_iald hx hb hK hH 0 hmn rfl (i) rfl (by omega) (by decide) dR_look_23 ?_
    refine lv_aload_n hx hb dR_look_24 rfl (lv_at hl 0 rfl) ?_
    refine zr_V (As := []) (rest := [.int (nI ((st.lg i).length)), .int (nI (zsum (fun r => if (st.lg r).length = zsum (fun a => (st.wt a).length) n then 1 else 0) i))]) (q := (RR, TR, 22)) ⟨hx, hb, hml, hown, hz⟩ (kR_total l G B Mi x z n mb st 0 pt Y hn hRi) (zt_V zm_557 zm_559 zs_26 zm_3 zm_560) rfl rfl rfl (show _ ∧ _ ∧ _ ∧ _ = some 0 from by decide +kernel) ⟨Nat.le_of_ble_eq_true rfl, Nat.le_of_ble_eq_true rfl⟩ zE_blind (zE_at hE hS) hH hK hx0 rfl rfl hl.1 rfl (Nat.le_of_ble_eq_true rfl) dR_look_25 ⟨Nat.le_of_ble_eq_true rfl, Nat.le_of_ble_eq_true rfl⟩ ?_
    refine zc_ne (tgt := 35) hx hb dR_look_28 (by decide) (by omega) (by omega) (fun b2 => ?_) (fun b2 => ?_)
    · refine lv_iconst (v := nI 0) hx hb dR_look_35 (by decide) ?_
      refine lv_iadd hx hb dR_look_36 ?_
      refine zw_ti (nI_add _ _) ?_
      refine lv_istore_n (lv' := [(2, .int (nI ((zsum (fun r => if (st.lg r).length = zsum (fun a => (st.wt a).length) n then 1 else 0) i) + 0))), (0, .ref x), (1, .int a), (3, .int (nI i))]) hx hb dR_look_37 rfl hl (by decide) rfl (fun ls hl => ?_)
      refine lv_iinc (v := (nI (i + 1))) (lv' := [(3, .int (nI (i + 1))), (2, .int (nI ((zsum (fun r => if (st.lg r).length = zsum (fun a => (st.wt a).length) n then 1 else 0) i) + 0))), (0, .ref x), (1, .int a)]) hx hb dR_look_38 hl (k := 3) rfl (nI_add _ _) (by decide) rfl (fun ls hl => ?_)
      refine lv_goto (tgt := 9) hx hb dR_look_41 (by decide) ?_
      exact ih b1 ls Hi _ ⟨lv_sub hl [2, 3, 1, 0] (by rw [show zsum (fun r => if (st.lg r).length = zsum (fun a => (st.wt a).length) n then 1 else 0) (i + 1) = zsum (fun r => if (st.lg r).length = zsum (fun a => (st.wt a).length) n then 1 else 0) i + 0 from by show zsum _ i + (if (st.lg i).length = zsum (fun a => (st.wt a).length) n then 1 else 0) = _; rw [if_neg b2]]; rfl), Mi, hH, hS, ⟨hMi, hsz⟩⟩
    · refine lv_iconst (v := nI 1) hx hb dR_look_31 (by decide) ?_
      refine lv_goto (tgt := 36) hx hb dR_look_32 (by decide) ?_
      refine lv_iadd hx hb dR_look_36 ?_
      refine zw_ti (nI_add _ _) ?_
      refine lv_istore_n (lv' := [(2, .int (nI ((zsum (fun r => if (st.lg r).length = zsum (fun a => (st.wt a).length) n then 1 else 0) i) + 1))), (0, .ref x), (1, .int a), (3, .int (nI i))]) hx hb dR_look_37 rfl hl (by decide) rfl (fun ls hl => ?_)
      refine lv_iinc (v := (nI (i + 1))) (lv' := [(3, .int (nI (i + 1))), (2, .int (nI ((zsum (fun r => if (st.lg r).length = zsum (fun a => (st.wt a).length) n then 1 else 0) i) + 1))), (0, .ref x), (1, .int a)]) hx hb dR_look_38 hl (k := 3) rfl (nI_add _ _) (by decide) rfl (fun ls hl => ?_)
      refine lv_goto (tgt := 9) hx hb dR_look_41 (by decide) ?_
      exact ih b1 ls Hi _ ⟨lv_sub hl [2, 3, 1, 0] (by rw [show zsum (fun r => if (st.lg r).length = zsum (fun a => (st.wt a).length) n then 1 else 0) (i + 1) = zsum (fun r => if (st.lg r).length = zsum (fun a => (st.wt a).length) n then 1 else 0) i + 1 from by show zsum _ i + (if (st.lg i).length = zsum (fun a => (st.wt a).length) n then 1 else 0) = _; rw [if_pos b2]]; rfl), Mi, hH, hS, ⟨hMi, hsz⟩⟩

set_option maxHeartbeats 4000000 in
set_option maxRecDepth 100000 in
theorem kR_lose_in (l : Launch) (G : zG) (B : Nat) (M : zw_M) (sz : Nat) (x z n mb : Nat) (st : zSt) (th pt : Nat) (Y : zRX) (hn : n ≤ 8) (hR : zRR G M x z n mb st th pt Y) (h120 : st.fl.length ≤ 120) (j : Nat) (hj : j < st.fl.length) : Met l yR_lose (Cond.code yR_lose bR_lose 2 (some .boolean) :: zT) { frames := 1, cells := 0, slots := 0, locals := 24 } (zq G B M sz [.ref x, .int (nI j)]) (va_Qi (fun (r : Int32) (u : zw_M × Nat) => r = nI 1 ∧ zRO G x z n mb sz M (zlost (zdrop st j)) 0 u) (zr_o G.1 zCl B) (zw_A B)) (0) (0) (zw_A B) := by
  refine Met.ofW (cc := bR_lose) (maxL := 2) (ret := (some .boolean)) (by decide) rfl ?_
  intro p e s m args below meth c s₁ B0 hml hv
  obtain ⟨rfl, hE, hH, hsz⟩ := hv
  have hx := B0.exec
  have hb := B0.bytes
  have hr := B0.returns
  have hlocks := B0.notSynchronized
  have hz : ∀ w ∈ zT, w.before _ s = true := fun w h => atoms_spec (ws := Cond.code yR_lose bR_lose 2 (some .boolean) :: zT) B0.pre w (List.mem_cons_of_mem _ h)
  have hown : s.vm.findClass RR = some m.cls := findClass_of_methodNamed B0.named
  have hK := hE.1
  have hl := lv_entry ([.ref x, .int (nI j)]) (n := 2) (Nat.le_of_ble_eq_true rfl)
  rw [lg_entry_eq]
  generalize (lg_sl ([.ref x, .int (nI j)]) ++ List.replicate (2 - (lg_sl ([.ref x, .int (nI j)])).length) Slot.unset).toArray = ls at hl ⊢
  have hl : lv_has ls 2 [(0, .ref x), (1, .int (nI j))] := hl
  have hS : va_S (zw_A B) s.heap s.heap [] := va_S.rf
  have hin : meth.name = "lose" := (name_of_methodNamed B0.named B0.method).1
  have hx0 := hR.obj
  have hxz := hR.xz
  refine lv_aload_n hx hb dR_lose_0 rfl (lv_at hl 0 rfl) ?_
  refine lv_iconst (v := nI 0) hx hb dR_lose_1 (by decide) ?_
  refine zw_put (D := G.1) (ci := 2) (v := .int (nI 0)) (ty := .int) (C := RR) (T := TR) (N := 22) hx hb hz iR tR tR_ok nR hown hK hH hS hx0 rfl 0 (by decide) (hz _ zm_388) (fun _ h9 => h9) rfl (by decide +kernel) rfl rfl (Nat.le_of_ble_eq_true rfl) dR_lose_2 (fun H1 L1 hH hz1 hS => ?_)
  have hsz : H1.size = sz := hz1.trans hsz
  obtain ⟨M1, hM1⟩ : ∃ Mq, Mq = zw_u M x (.inr (2, zoR 0 n mb z st.fl.length st.se st.lo st.go st.pa pt)) := ⟨_, rfl⟩
  have hH : zw_H G.1 zCl B M1 H1 := by rw [hM1]; exact hH
  have hx0 : M1 x = some (.inr (2, zoR 0 n mb z st.fl.length st.se st.lo st.go st.pa pt)) := by rw [hM1]; exact zw_us _ _ _
  refine lv_aload_n hx hb dR_lose_5 rfl (lv_at hl 0 rfl) ?_
  refine lv_iload_n hx hb dR_lose_6 rfl (lv_at hl 1 rfl) ?_
  have hkx : ∀ a : Nat, a ≠ x → M1 a = M a := fun a h1 => by rw [hM1, zw_un _ _ h1]
  have hRn : zRR G M1 x z n mb st 0 pt Y := hR.cnt (st' := st) rfl rfl rfl rfl hx0 (fun a e h1 h2 => (hkx a h1).trans h2)
  refine zr_V (As := [.int (nI j)]) (rest := []) (q := (RR, TR, 22)) ⟨hx, hb, hml, hown, hz⟩ (kR_isMessage_in l G B M1 x z n mb st 0 pt Y hn hRn h120 j hj) (zt_V zm_491 zm_493 zs_20 zm_3 zm_494) rfl rfl rfl (show _ ∧ _ ∧ _ ∧ _ = some 1 from by decide +kernel) ⟨Nat.le_of_ble_eq_true rfl, Nat.le_of_ble_eq_true rfl⟩ zE_blind (zE_at hE hS) hH hK hx0 rfl rfl hl.1 rfl (Nat.le_of_ble_eq_true rfl) dR_lose_7 ⟨Nat.le_of_ble_eq_true rfl, Nat.le_of_ble_eq_true rfl⟩ ?_
  refine zc_ne0 (tgt := 15) hx hb dR_lose_10 (by decide) (by decide) (fun b49 => ?_) (fun b49 => ?_)
  · refine lv_aload_n hx hb dR_lose_15 rfl (lv_at hl 0 rfl) ?_
    refine lv_iload_n hx hb dR_lose_16 rfl (lv_at hl 1 rfl) ?_
    refine zr_Vv (As := [.int (nI j)]) (rest := []) (q := (RR, TR, 22)) (mc := 0) (ms := 0) ⟨hx, hb, hml, hown, hz⟩ (kR_remove l G B M1 _ x z n mb st 0 pt Y hn hRn h120 j hj) (zt_V zm_495 zm_497 zs_21 zm_3 zm_498) rfl rfl rfl (show _ ∧ _ ∧ _ ∧ _ = some 1 from by decide +kernel) ⟨Nat.le_of_ble_eq_true rfl, Nat.le_of_ble_eq_true rfl⟩ zE_blind (zE_at hE hS) hH hK hx0 rfl rfl hS hl.1 rfl (Nat.le_of_ble_eq_true rfl) dR_lose_17 ⟨Nat.le_of_ble_eq_true rfl, Nat.le_of_ble_eq_true rfl⟩ (fun M2 sz2 H2 L2 hp hH hz1 hz2 hS => ?_)
    obtain ⟨hR2, hfr2, hz3⟩ := hp
    have hsz : H2.size = sz := hz1.trans (hz3.trans hsz)
    have hx0 := hR2.obj
    have hxz := hR2.xz
    refine lv_aload_n hx hb dR_lose_20 rfl (lv_at hl 0 rfl) ?_
    refine lv_dup hx hb dR_lose_21 rfl ?_
    refine va_get (D := G.1) (ci := 2) (v := .int (nI ((zdrop st j).lo))) (C := RR) (T := TR) (N := 22) hx hb hz iR hown hK (hH.one hx0) 0 rfl rfl 17 (by decide) (hz _ zm_405) (fun _ h9 => h9) rfl dR_lose_22 ?_
    refine lv_iconst (v := nI 1) hx hb dR_lose_25 (by decide) ?_
    refine lv_iadd hx hb dR_lose_26 ?_
    refine zw_ti (nI_add _ _) ?_
    refine zw_put (D := G.1) (ci := 2) (v := .int (nI (((zdrop st j).lo) + 1))) (ty := .int) (C := RR) (T := TR) (N := 22) hx hb hz iR tR tR_ok nR hown hK hH hS hx0 rfl 17 (by decide) (hz _ zm_405) (fun _ h9 => h9) rfl (by decide +kernel) rfl rfl (Nat.le_of_ble_eq_true rfl) dR_lose_27 (fun H3 L3 hH hz1 hS => ?_)
    have hsz : H3.size = sz := hz1.trans hsz
    obtain ⟨M3, hM3⟩ : ∃ Mq, Mq = zw_u M2 x (.inr (2, zoR 0 n mb z ((zdrop st j).fl.length) ((zdrop st j).se) (((zdrop st j).lo) + 1) ((zdrop st j).go) ((zdrop st j).pa) pt)) := ⟨_, rfl⟩
    have hH : zw_H G.1 zCl B M3 H3 := by rw [hM3]; exact hH
    have hx0 : M3 x = some (.inr (2, zoR 0 n mb z ((zdrop st j).fl.length) ((zdrop st j).se) (((zdrop st j).lo) + 1) ((zdrop st j).go) ((zdrop st j).pa) pt)) := by rw [hM3]; exact zw_us _ _ _
    refine lv_iconst (v := nI 1) hx hb dR_lose_30 (by decide) ?_
    have hkf : ∀ a : Nat, a ≠ x → M3 a = M2 a := fun a h1 => by rw [hM3, zw_un _ _ h1]
    exact W.zret (v := (nI 1)) (ty := .boolean) hx hb hr rfl (fun t ht hW => ⟨⟨(nI 1), (M3, sz), rfl, ⟨rfl, ⟨pt, _, hR2.cnt (st' := zlost (zdrop st j)) rfl rfl rfl rfl hx0 (fun a e h1 h2 => (hkf a h1).trans h2)⟩, fun q h1 h2 => (hkf q h1).trans ((hfr2 q h1 h2).trans (hkx q h1)), rfl⟩, by rw [ht]; exact hH, by rw [ht]; exact hsz⟩, hS.F ht⟩) hS.2.2 dR_lose_31
  · exact absurd b49 (by decide)

set_option maxHeartbeats 4000000 in
set_option maxRecDepth 100000 in
theorem kR_lose_out (l : Launch) (G : zG) (B : Nat) (M : zw_M) (sz : Nat) (x z n mb : Nat) (st : zSt) (th pt : Nat) (Y : zRX) (hn : n ≤ 8) (hR : zRR G M x z n mb st th pt Y) (a : Int32) (ha : a < 0 ∨ nI st.fl.length ≤ a) : Met l yR_lose (Cond.code yR_lose bR_lose 2 (some .boolean) :: zT) { frames := 1, cells := 0, slots := 0, locals := 24 } (zq G B M sz [.ref x, .int a]) (va_Qi (fun (r : Int32) (u : zw_M × Nat) => r = nI 0 ∧ zRO G x z n mb sz M st 0 u) (zr_o G.1 zCl B) (zw_A B)) (0) (0) (zw_A B) := by
  refine Met.ofW (cc := bR_lose) (maxL := 2) (ret := (some .boolean)) (by decide) rfl ?_
  intro p e s m args below meth c s₁ B0 hml hv
  obtain ⟨rfl, hE, hH, hsz⟩ := hv
  have hx := B0.exec
  have hb := B0.bytes
  have hr := B0.returns
  have hlocks := B0.notSynchronized
  have hz : ∀ w ∈ zT, w.before _ s = true := fun w h => atoms_spec (ws := Cond.code yR_lose bR_lose 2 (some .boolean) :: zT) B0.pre w (List.mem_cons_of_mem _ h)
  have hown : s.vm.findClass RR = some m.cls := findClass_of_methodNamed B0.named
  have hK := hE.1
  have hl := lv_entry ([.ref x, .int a]) (n := 2) (Nat.le_of_ble_eq_true rfl)
  rw [lg_entry_eq]
  generalize (lg_sl ([.ref x, .int a]) ++ List.replicate (2 - (lg_sl ([.ref x, .int a])).length) Slot.unset).toArray = ls at hl ⊢
  have hl : lv_has ls 2 [(0, .ref x), (1, .int a)] := hl
  have hS : va_S (zw_A B) s.heap s.heap [] := va_S.rf
  have hin : meth.name = "lose" := (name_of_methodNamed B0.named B0.method).1
  have hx0 := hR.obj
  have hxz := hR.xz
  refine lv_aload_n hx hb dR_lose_0 rfl (lv_at hl 0 rfl) ?_
  refine lv_iconst (v := nI 0) hx hb dR_lose_1 (by decide) ?_
  refine zw_put (D := G.1) (ci := 2) (v := .int (nI 0)) (ty := .int) (C := RR) (T := TR) (N := 22) hx hb hz iR tR tR_ok nR hown hK hH hS hx0 rfl 0 (by decide) (hz _ zm_388) (fun _ h9 => h9) rfl (by decide +kernel) rfl rfl (Nat.le_of_ble_eq_true rfl) dR_lose_2 (fun H1 L1 hH hz1 hS => ?_)
  have hsz : H1.size = sz := hz1.trans hsz
  obtain ⟨M1, hM1⟩ : ∃ Mq, Mq = zw_u M x (.inr (2, zoR 0 n mb z st.fl.length st.se st.lo st.go st.pa pt)) := ⟨_, rfl⟩
  have hH : zw_H G.1 zCl B M1 H1 := by rw [hM1]; exact hH
  have hx0 : M1 x = some (.inr (2, zoR 0 n mb z st.fl.length st.se st.lo st.go st.pa pt)) := by rw [hM1]; exact zw_us _ _ _
  refine lv_aload_n hx hb dR_lose_5 rfl (lv_at hl 0 rfl) ?_
  refine lv_iload_n hx hb dR_lose_6 rfl (lv_at hl 1 rfl) ?_
  have hkx : ∀ a : Nat, a ≠ x → M1 a = M a := fun a h1 => by rw [hM1, zw_un _ _ h1]
  have hRn : zRR G M1 x z n mb st 0 pt Y := hR.cnt (st' := st) rfl rfl rfl rfl hx0 (fun a e h1 h2 => (hkx a h1).trans h2)
  refine zr_V (As := [.int a]) (rest := []) (q := (RR, TR, 22)) ⟨hx, hb, hml, hown, hz⟩ (kR_isMessage_out l G B M1 x z n mb st 0 pt Y hn hRn a ha) (zt_V zm_491 zm_493 zs_20 zm_3 zm_494) rfl rfl rfl (show _ ∧ _ ∧ _ ∧ _ = some 1 from by decide +kernel) ⟨Nat.le_of_ble_eq_true rfl, Nat.le_of_ble_eq_true rfl⟩ zE_blind (zE_at hE hS) hH hK hx0 rfl rfl hl.1 rfl (Nat.le_of_ble_eq_true rfl) dR_lose_7 ⟨Nat.le_of_ble_eq_true rfl, Nat.le_of_ble_eq_true rfl⟩ ?_
  refine zc_ne0 (tgt := 15) hx hb dR_lose_10 (by decide) (by decide) (fun b50 => ?_) (fun b50 => ?_)
  · exact absurd b50 (by decide)
  · refine lv_iconst (v := nI 0) hx hb dR_lose_13 (by decide) ?_
    have hkx : ∀ a : Nat, a ≠ x → M1 a = M a := fun a h1 => by rw [hM1, zw_un _ _ h1]
    exact W.zret (v := (nI 0)) (ty := .boolean) hx hb hr rfl (fun t ht hW => ⟨⟨(nI 0), (M1, sz), rfl, ⟨rfl, ⟨pt, Y, hR.cnt (st' := st) rfl rfl rfl rfl hx0 (fun a e h1 h2 => (hkx a h1).trans h2)⟩, fun q h1 h2 => hkx q h1, rfl⟩, by rw [ht]; exact hH, by rw [ht]; exact hsz⟩, hS.F ht⟩) hS.2.2 dR_lose_14

theorem zdn_u (st : zSt) (j : Nat) (b : Bool) : upd (fun a9 => nI (st.dn a9).toNat) j (nI b.toNat) = fun a9 => nI ((zup st j b).dn a9).toNat := by
  funext i
  show (if i = j then _ else _) = nI (if i = j then b else st.dn i : Bool).toNat
  by_cases hi : i = j
  · rw [if_pos hi, if_pos hi]
  · rw [if_neg hi, if_neg hi]
set_option maxHeartbeats 4000000 in
set_option maxRecDepth 100000 in
theorem kR_up_yes (l : Launch) (G : zG) (B : Nat) (M : zw_M) (sz : Nat) (x z n mb : Nat) (st : zSt) (th pt : Nat) (Y : zRX) (hn : n ≤ 8) (hR : zRR G M x z n mb st th pt Y) (j : Nat) (hj : j < n) (bo : Bool) (hd : st.dn j = bo) : Met l yR_up (Cond.code yR_up bR_up 3 (some .boolean) :: zT) { frames := 1, cells := 0, slots := 0, locals := 24 } (zq G B M sz [.ref x, .int (nI j), .int (nI bo.toNat)]) (va_Qi (fun (r : Int32) (u : zw_M × Nat) => r = nI 1 ∧ zRO G x z n mb sz M (zup st j (!bo)) 0 u) (zr_o G.1 zCl B) (zw_A B)) (0) (0) (zw_A B) := by
  refine Met.ofW (cc := bR_up) (maxL := 3) (ret := (some .boolean)) (by decide) rfl ?_
  intro p e s m args below meth c s₁ B0 hml hv
  obtain ⟨rfl, hE, hH, hsz⟩ := hv
  have hx := B0.exec
  have hb := B0.bytes
  have hr := B0.returns
  have hlocks := B0.notSynchronized
  have hz : ∀ w ∈ zT, w.before _ s = true := fun w h => atoms_spec (ws := Cond.code yR_up bR_up 3 (some .boolean) :: zT) B0.pre w (List.mem_cons_of_mem _ h)
  have hown : s.vm.findClass RR = some m.cls := findClass_of_methodNamed B0.named
  have hK := hE.1
  have hl := lv_entry ([.ref x, .int (nI j), .int (nI bo.toNat)]) (n := 3) (Nat.le_of_ble_eq_true rfl)
  rw [lg_entry_eq]
  generalize (lg_sl ([.ref x, .int (nI j), .int (nI bo.toNat)]) ++ List.replicate (3 - (lg_sl ([.ref x, .int (nI j), .int (nI bo.toNat)])).length) Slot.unset).toArray = ls at hl ⊢
  have hl : lv_has ls 3 [(0, .ref x), (1, .int (nI j)), (2, .int (nI bo.toNat))] := hl
  have hS : va_S (zw_A B) s.heap s.heap [] := va_S.rf
  have hin : meth.name = "up" := (name_of_methodNamed B0.named B0.method).1
  have hb1 := zbool (st.dn j)
  have hb2 := zbool bo
  have hx0 := hR.obj
  have hdn := hR.dn
  have hmd := hR.md
  have hwt := hR.wt
  have hhas := hR.has
  have hmn := hR.mn
  have hrw := hR.rw
  have hnu := hR.nu
  have hfr := hR.fr
  have hto := hR.to
  have hsi := hR.si
  have hcl := hR.cl
  have hins := hR.ins
  have hpart := hR.part
  have hxz := hR.xz
  refine lv_aload_n hx hb dR_up_0 rfl (lv_at hl 0 rfl) ?_
  refine lv_iconst (v := nI 0) hx hb dR_up_1 (by decide) ?_
  refine zw_put (D := G.1) (ci := 2) (v := .int (nI 0)) (ty := .int) (C := RR) (T := TR) (N := 22) hx hb hz iR tR tR_ok nR hown hK hH hS hx0 rfl 0 (by decide) (hz _ zm_388) (fun _ h9 => h9) rfl (by decide +kernel) rfl rfl (Nat.le_of_ble_eq_true rfl) dR_up_2 (fun H1 L1 hH hz1 hS => ?_)
  have hsz : H1.size = sz := hz1.trans hsz
  obtain ⟨M1, hM1⟩ : ∃ Mq, Mq = zw_u M x (.inr (2, zoR 0 n mb z st.fl.length st.se st.lo st.go st.pa pt)) := ⟨_, rfl⟩
  have hH : zw_H G.1 zCl B M1 H1 := by rw [hM1]; exact hH
  have hdn : M1 z = some (.inl (G.2.1 2, 8, .inl (fun a9 => nI (st.dn a9).toNat))) := by rw [hM1, zw_un _ _ (by omega)]; exact hdn
  have hmd : M1 (z + 1) = some (.inl (G.2.1 0, 8, .inl (fun a9 => nI ((st.wt a9).length)))) := by rw [hM1, zw_un _ _ (by omega)]; exact hmd
  have hwt : M1 (z + 2) = some (.inl (G.2.1 0, 488, .inl (fun a9 => nI ((st.wt (a9 / 61)).getD (a9 % 61) 0)))) := by rw [hM1, zw_un _ _ (by omega)]; exact hwt
  have hhas : M1 (z + 3) = some (.inl (G.2.1 0, 3840, .inl (fun a9 => nI ((st.lg (a9 / 480)).getD (a9 % 480) 0)))) := by rw [hM1, zw_un _ _ (by omega)]; exact hhas
  have hmn : M1 (z + 4) = some (.inl (G.2.1 0, 8, .inl (fun a9 => nI ((st.lg a9).length)))) := by rw [hM1, zw_un _ _ (by omega)]; exact hmn
  have hrw : M1 (z + 5) = some (.inl (G.2.1 0, 120, .inl (fun a9 => nI (Y.rw a9)))) := by rw [hM1, zw_un _ _ (by omega)]; exact hrw
  have hnu : M1 (z + 6) = some (.inl (G.2.1 0, 120, .inl Y.nu)) := by rw [hM1, zw_un _ _ (by omega)]; exact hnu
  have hfr : M1 (z + 7) = some (.inl (G.2.1 0, 120, .inl Y.fr)) := by rw [hM1, zw_un _ _ (by omega)]; exact hfr
  have hto : M1 (z + 8) = some (.inl (G.2.1 0, 120, .inl Y.to)) := by rw [hM1, zw_un _ _ (by omega)]; exact hto
  have hsi : M1 (z + 9) = some (.inl (G.2.1 0, 120, .inl Y.si)) := by rw [hM1, zw_un _ _ (by omega)]; exact hsi
  have hcl : M1 (z + 10) = some (.inl (G.2.1 1, 120, .inr (.inl Y.cl))) := by rw [hM1, zw_un _ _ (by omega)]; exact hcl
  have hins : M1 (z + 11) = some (.inl (G.2.1 0, 57600, .inl Y.ins)) := by rw [hM1, zw_un _ _ (by omega)]; exact hins
  have hpart : M1 (z + 12) = some (.inl (G.2.1 0, 480, .inl Y.part)) := by rw [hM1, zw_un _ _ (by omega)]; exact hpart
  have hx0 : M1 x = some (.inr (2, zoR 0 n mb z st.fl.length st.se st.lo st.go st.pa pt)) := by rw [hM1]; exact zw_us _ _ _
  refine lv_aload_n hx hb dR_up_5 rfl (lv_at hl 0 rfl) ?_
  refine lv_iload_n hx hb dR_up_6 rfl (lv_at hl 1 rfl) ?_
  have hkx : ∀ a : Nat, a ≠ x → M1 a = M a := fun a h1 => by rw [hM1, zw_un _ _ h1]
  have hRn : zRR G M1 x z n mb st 0 pt Y := hR.cnt (st' := st) rfl rfl rfl rfl hx0 (fun a e h1 h2 => (hkx a h1).trans h2)
  refine zr_V (As := [.int (nI j)]) (rest := []) (q := (RR, TR, 22)) ⟨hx, hb, hml, hown, hz⟩ (kR_isReplica_in l G B M1 x z n mb st 0 pt Y hn hRn j hj) (zt_V zm_463 zm_465 zs_15 zm_3 zm_466) rfl rfl rfl (show _ ∧ _ ∧ _ ∧ _ = some 1 from by decide +kernel) ⟨Nat.le_of_ble_eq_true rfl, Nat.le_of_ble_eq_true rfl⟩ zE_blind (zE_at hE hS) hH hK hx0 rfl rfl hl.1 rfl (Nat.le_of_ble_eq_true rfl) dR_up_7 ⟨Nat.le_of_ble_eq_true rfl, Nat.le_of_ble_eq_true rfl⟩ ?_
  refine zc_eq0 (tgt := 35) hx hb dR_up_10 (by decide) (by decide) (fun b51 => ?_) (fun b51 => ?_)
  · exact absurd b51 (by decide)
  · refine lv_aload_n hx hb dR_up_13 rfl (lv_at hl 0 rfl) ?_
    refine va_get (D := G.1) (ci := 2) (v := .ref z) (C := RR) (T := TR) (N := 22) hx hb hz iR hown hK (hH.one hx0) 0 rfl rfl 3 (by decide) (hz _ zm_391) (fun _ h9 => h9) rfl dR_up_14 ?_
    refine lv_aload_n hx hb dR_up_17 rfl (lv_at hl 0 rfl) ?_
    refine lv_iload_n hx hb dR_up_18 rfl (lv_at hl 1 rfl) ?_
    refine zr_V (As := [.int (nI j)]) (rest := [.ref z]) (q := (RR, TR, 22)) ⟨hx, hb, hml, hown, hz⟩ (kR_isReplica_in l G B M1 x z n mb st 0 pt Y hn hRn j hj) (zt_V zm_463 zm_465 zs_15 zm_3 zm_466) rfl rfl rfl (show _ ∧ _ ∧ _ ∧ _ = some 1 from by decide +kernel) ⟨Nat.le_of_ble_eq_true rfl, Nat.le_of_ble_eq_true rfl⟩ zE_blind (zE_at hE hS) hH hK hx0 rfl rfl hl.1 rfl (Nat.le_of_ble_eq_true rfl) dR_up_19 ⟨Nat.le_of_ble_eq_true rfl, Nat.le_of_ble_eq_true rfl⟩ ?_
    refine zc_eq0 (tgt := 29) hx hb dR_up_22 (by decide) (by decide) (fun b52 => ?_) (fun b52 => ?_)
    · exact absurd b52 (by decide)
    · refine lv_iload_n hx hb dR_up_25 rfl (lv_at hl 1 rfl) ?_
      refine lv_goto (tgt := 30) hx hb dR_up_26 (by decide) ?_
      refine zw_zald hx hb hK hH 2 hdn rfl (j) rfl (by omega) (by decide) dR_up_30 ?_
      refine lv_iload_n hx hb dR_up_31 rfl (lv_at hl 2 rfl) ?_
      refine zc_eq (tgt := 37) hx hb dR_up_32 (by decide) (by omega) (by omega) (fun c2 => ?_) (fun c2 => ?_)
      · refine lv_aload_n hx hb dR_up_37 rfl (lv_at hl 0 rfl) ?_
        refine va_get (D := G.1) (ci := 2) (v := .ref z) (C := RR) (T := TR) (N := 22) hx hb hz iR hown hK (hH.one hx0) 0 rfl rfl 3 (by decide) (hz _ zm_391) (fun _ h9 => h9) rfl dR_up_38 ?_
        refine lv_iload_n hx hb dR_up_41 rfl (lv_at hl 1 rfl) ?_
        refine lv_iload_n hx hb dR_up_42 rfl (lv_at hl 2 rfl) ?_
        refine zc_ne0 (tgt := 50) hx hb dR_up_43 (by decide) (by omega) (fun c3 => ?_) (fun c3 => ?_)
        · refine lv_iconst (v := nI 0) hx hb dR_up_50 (by decide) ?_
          refine zw_zast hx hb hK hH hS 2 hdn rfl rfl (j) rfl (by omega) (by decide) dR_up_51 (fun H2 L2 hH hz1 hS => ?_)
          have hsz : H2.size = sz := hz1.trans hsz
          obtain ⟨M2, hM2⟩ : ∃ Mq, Mq = zw_u M1 z (.inl (G.2.1 2, 8, .inl (upd (fun a9 => nI (st.dn a9).toNat) j (nI 0)))) := ⟨_, rfl⟩
          have hH : zw_H G.1 zCl B M2 H2 := by rw [hM2]; exact hH
          have hx0 : M2 x = some (.inr (2, zoR 0 n mb z st.fl.length st.se st.lo st.go st.pa pt)) := by rw [hM2, zw_un _ _ (by omega)]; exact hx0
          have hmd : M2 (z + 1) = some (.inl (G.2.1 0, 8, .inl (fun a9 => nI ((st.wt a9).length)))) := by rw [hM2, zw_un _ _ (by omega)]; exact hmd
          have hwt : M2 (z + 2) = some (.inl (G.2.1 0, 488, .inl (fun a9 => nI ((st.wt (a9 / 61)).getD (a9 % 61) 0)))) := by rw [hM2, zw_un _ _ (by omega)]; exact hwt
          have hhas : M2 (z + 3) = some (.inl (G.2.1 0, 3840, .inl (fun a9 => nI ((st.lg (a9 / 480)).getD (a9 % 480) 0)))) := by rw [hM2, zw_un _ _ (by omega)]; exact hhas
          have hmn : M2 (z + 4) = some (.inl (G.2.1 0, 8, .inl (fun a9 => nI ((st.lg a9).length)))) := by rw [hM2, zw_un _ _ (by omega)]; exact hmn
          have hrw : M2 (z + 5) = some (.inl (G.2.1 0, 120, .inl (fun a9 => nI (Y.rw a9)))) := by rw [hM2, zw_un _ _ (by omega)]; exact hrw
          have hnu : M2 (z + 6) = some (.inl (G.2.1 0, 120, .inl Y.nu)) := by rw [hM2, zw_un _ _ (by omega)]; exact hnu
          have hfr : M2 (z + 7) = some (.inl (G.2.1 0, 120, .inl Y.fr)) := by rw [hM2, zw_un _ _ (by omega)]; exact hfr
          have hto : M2 (z + 8) = some (.inl (G.2.1 0, 120, .inl Y.to)) := by rw [hM2, zw_un _ _ (by omega)]; exact hto
          have hsi : M2 (z + 9) = some (.inl (G.2.1 0, 120, .inl Y.si)) := by rw [hM2, zw_un _ _ (by omega)]; exact hsi
          have hcl : M2 (z + 10) = some (.inl (G.2.1 1, 120, .inr (.inl Y.cl))) := by rw [hM2, zw_un _ _ (by omega)]; exact hcl
          have hins : M2 (z + 11) = some (.inl (G.2.1 0, 57600, .inl Y.ins)) := by rw [hM2, zw_un _ _ (by omega)]; exact hins
          have hpart : M2 (z + 12) = some (.inl (G.2.1 0, 480, .inl Y.part)) := by rw [hM2, zw_un _ _ (by omega)]; exact hpart
          have hdn : M2 z = some (.inl (G.2.1 2, 8, .inl (upd (fun a9 => nI (st.dn a9).toNat) j (nI 0)))) := by rw [hM2]; exact zw_us _ _ _
          refine lv_iconst (v := nI 1) hx hb dR_up_52 (by decide) ?_
          have hfz : zrf x z M M2 := fun q h1 h2 => by rw [hM2, zw_un _ _ (by omega), hM1, zw_un _ _ (by omega)]
          rw [show nI 0 = nI (!bo).toNat from by rw [show (!bo) = false from by cases bo <;> first | rfl | exact absurd c3 (by decide)]; rfl, zdn_u st j (!bo)] at hdn
          exact W.zret (v := (nI 1)) (ty := .boolean) hx hb hr rfl (fun t ht hW => ⟨⟨(nI 1), (M2, sz), rfl, ⟨rfl, ⟨pt, Y, ⟨hxz, hx0, hdn, hmd, hwt, hhas, hmn, hrw, hnu, hfr, hto, hsi, hcl, hins, hpart, hR.rwb, hR.rwi, hR.msg⟩⟩, hfz, rfl⟩, by rw [ht]; exact hH, by rw [ht]; exact hsz⟩, hS.F ht⟩) hS.2.2 dR_up_53
        · refine lv_iconst (v := nI 1) hx hb dR_up_46 (by decide) ?_
          refine lv_goto (tgt := 51) hx hb dR_up_47 (by decide) ?_
          refine zw_zast hx hb hK hH hS 2 hdn rfl rfl (j) rfl (by omega) (by decide) dR_up_51 (fun H2 L2 hH hz1 hS => ?_)
          have hsz : H2.size = sz := hz1.trans hsz
          obtain ⟨M2, hM2⟩ : ∃ Mq, Mq = zw_u M1 z (.inl (G.2.1 2, 8, .inl (upd (fun a9 => nI (st.dn a9).toNat) j (nI 1)))) := ⟨_, rfl⟩
          have hH : zw_H G.1 zCl B M2 H2 := by rw [hM2]; exact hH
          have hx0 : M2 x = some (.inr (2, zoR 0 n mb z st.fl.length st.se st.lo st.go st.pa pt)) := by rw [hM2, zw_un _ _ (by omega)]; exact hx0
          have hmd : M2 (z + 1) = some (.inl (G.2.1 0, 8, .inl (fun a9 => nI ((st.wt a9).length)))) := by rw [hM2, zw_un _ _ (by omega)]; exact hmd
          have hwt : M2 (z + 2) = some (.inl (G.2.1 0, 488, .inl (fun a9 => nI ((st.wt (a9 / 61)).getD (a9 % 61) 0)))) := by rw [hM2, zw_un _ _ (by omega)]; exact hwt
          have hhas : M2 (z + 3) = some (.inl (G.2.1 0, 3840, .inl (fun a9 => nI ((st.lg (a9 / 480)).getD (a9 % 480) 0)))) := by rw [hM2, zw_un _ _ (by omega)]; exact hhas
          have hmn : M2 (z + 4) = some (.inl (G.2.1 0, 8, .inl (fun a9 => nI ((st.lg a9).length)))) := by rw [hM2, zw_un _ _ (by omega)]; exact hmn
          have hrw : M2 (z + 5) = some (.inl (G.2.1 0, 120, .inl (fun a9 => nI (Y.rw a9)))) := by rw [hM2, zw_un _ _ (by omega)]; exact hrw
          have hnu : M2 (z + 6) = some (.inl (G.2.1 0, 120, .inl Y.nu)) := by rw [hM2, zw_un _ _ (by omega)]; exact hnu
          have hfr : M2 (z + 7) = some (.inl (G.2.1 0, 120, .inl Y.fr)) := by rw [hM2, zw_un _ _ (by omega)]; exact hfr
          have hto : M2 (z + 8) = some (.inl (G.2.1 0, 120, .inl Y.to)) := by rw [hM2, zw_un _ _ (by omega)]; exact hto
          have hsi : M2 (z + 9) = some (.inl (G.2.1 0, 120, .inl Y.si)) := by rw [hM2, zw_un _ _ (by omega)]; exact hsi
          have hcl : M2 (z + 10) = some (.inl (G.2.1 1, 120, .inr (.inl Y.cl))) := by rw [hM2, zw_un _ _ (by omega)]; exact hcl
          have hins : M2 (z + 11) = some (.inl (G.2.1 0, 57600, .inl Y.ins)) := by rw [hM2, zw_un _ _ (by omega)]; exact hins
          have hpart : M2 (z + 12) = some (.inl (G.2.1 0, 480, .inl Y.part)) := by rw [hM2, zw_un _ _ (by omega)]; exact hpart
          have hdn : M2 z = some (.inl (G.2.1 2, 8, .inl (upd (fun a9 => nI (st.dn a9).toNat) j (nI 1)))) := by rw [hM2]; exact zw_us _ _ _
          refine lv_iconst (v := nI 1) hx hb dR_up_52 (by decide) ?_
          have hfz : zrf x z M M2 := fun q h1 h2 => by rw [hM2, zw_un _ _ (by omega), hM1, zw_un _ _ (by omega)]
          rw [show nI 1 = nI (!bo).toNat from by rw [show (!bo) = true from by cases bo <;> first | rfl | exact absurd c3 (by decide)]; rfl, zdn_u st j (!bo)] at hdn
          exact W.zret (v := (nI 1)) (ty := .boolean) hx hb hr rfl (fun t ht hW => ⟨⟨(nI 1), (M2, sz), rfl, ⟨rfl, ⟨pt, Y, ⟨hxz, hx0, hdn, hmd, hwt, hhas, hmn, hrw, hnu, hfr, hto, hsi, hcl, hins, hpart, hR.rwb, hR.rwi, hR.msg⟩⟩, hfz, rfl⟩, by rw [ht]; exact hH, by rw [ht]; exact hsz⟩, hS.F ht⟩) hS.2.2 dR_up_53
      · exact absurd (congrArg Bool.toNat hd) c2

set_option maxHeartbeats 4000000 in
set_option maxRecDepth 100000 in
theorem kR_up_no (l : Launch) (G : zG) (B : Nat) (M : zw_M) (sz : Nat) (x z n mb : Nat) (st : zSt) (th pt : Nat) (Y : zRX) (hn : n ≤ 8) (hR : zRR G M x z n mb st th pt Y) (j : Nat) (hj : j < n) (bo : Bool) (hd : st.dn j ≠ bo) : Met l yR_up (Cond.code yR_up bR_up 3 (some .boolean) :: zT) { frames := 1, cells := 0, slots := 0, locals := 24 } (zq G B M sz [.ref x, .int (nI j), .int (nI bo.toNat)]) (va_Qi (fun (r : Int32) (u : zw_M × Nat) => r = nI 0 ∧ zRO G x z n mb sz M st 0 u) (zr_o G.1 zCl B) (zw_A B)) (0) (0) (zw_A B) := by
  refine Met.ofW (cc := bR_up) (maxL := 3) (ret := (some .boolean)) (by decide) rfl ?_
  intro p e s m args below meth c s₁ B0 hml hv
  obtain ⟨rfl, hE, hH, hsz⟩ := hv
  have hx := B0.exec
  have hb := B0.bytes
  have hr := B0.returns
  have hlocks := B0.notSynchronized
  have hz : ∀ w ∈ zT, w.before _ s = true := fun w h => atoms_spec (ws := Cond.code yR_up bR_up 3 (some .boolean) :: zT) B0.pre w (List.mem_cons_of_mem _ h)
  have hown : s.vm.findClass RR = some m.cls := findClass_of_methodNamed B0.named
  have hK := hE.1
  have hl := lv_entry ([.ref x, .int (nI j), .int (nI bo.toNat)]) (n := 3) (Nat.le_of_ble_eq_true rfl)
  rw [lg_entry_eq]
  generalize (lg_sl ([.ref x, .int (nI j), .int (nI bo.toNat)]) ++ List.replicate (3 - (lg_sl ([.ref x, .int (nI j), .int (nI bo.toNat)])).length) Slot.unset).toArray = ls at hl ⊢
  have hl : lv_has ls 3 [(0, .ref x), (1, .int (nI j)), (2, .int (nI bo.toNat))] := hl
  have hS : va_S (zw_A B) s.heap s.heap [] := va_S.rf
  have hin : meth.name = "up" := (name_of_methodNamed B0.named B0.method).1
  have hb1 := zbool (st.dn j)
  have hb2 := zbool bo
  have hx0 := hR.obj
  have hdn := hR.dn
  have hmd := hR.md
  have hwt := hR.wt
  have hhas := hR.has
  have hmn := hR.mn
  have hrw := hR.rw
  have hnu := hR.nu
  have hfr := hR.fr
  have hto := hR.to
  have hsi := hR.si
  have hcl := hR.cl
  have hins := hR.ins
  have hpart := hR.part
  have hxz := hR.xz
  refine lv_aload_n hx hb dR_up_0 rfl (lv_at hl 0 rfl) ?_
  refine lv_iconst (v := nI 0) hx hb dR_up_1 (by decide) ?_
  refine zw_put (D := G.1) (ci := 2) (v := .int (nI 0)) (ty := .int) (C := RR) (T := TR) (N := 22) hx hb hz iR tR tR_ok nR hown hK hH hS hx0 rfl 0 (by decide) (hz _ zm_388) (fun _ h9 => h9) rfl (by decide +kernel) rfl rfl (Nat.le_of_ble_eq_true rfl) dR_up_2 (fun H1 L1 hH hz1 hS => ?_)
  have hsz : H1.size = sz := hz1.trans hsz
  obtain ⟨M1, hM1⟩ : ∃ Mq, Mq = zw_u M x (.inr (2, zoR 0 n mb z st.fl.length st.se st.lo st.go st.pa pt)) := ⟨_, rfl⟩
  have hH : zw_H G.1 zCl B M1 H1 := by rw [hM1]; exact hH
  have hdn : M1 z = some (.inl (G.2.1 2, 8, .inl (fun a9 => nI (st.dn a9).toNat))) := by rw [hM1, zw_un _ _ (by omega)]; exact hdn
  have hmd : M1 (z + 1) = some (.inl (G.2.1 0, 8, .inl (fun a9 => nI ((st.wt a9).length)))) := by rw [hM1, zw_un _ _ (by omega)]; exact hmd
  have hwt : M1 (z + 2) = some (.inl (G.2.1 0, 488, .inl (fun a9 => nI ((st.wt (a9 / 61)).getD (a9 % 61) 0)))) := by rw [hM1, zw_un _ _ (by omega)]; exact hwt
  have hhas : M1 (z + 3) = some (.inl (G.2.1 0, 3840, .inl (fun a9 => nI ((st.lg (a9 / 480)).getD (a9 % 480) 0)))) := by rw [hM1, zw_un _ _ (by omega)]; exact hhas
  have hmn : M1 (z + 4) = some (.inl (G.2.1 0, 8, .inl (fun a9 => nI ((st.lg a9).length)))) := by rw [hM1, zw_un _ _ (by omega)]; exact hmn
  have hrw : M1 (z + 5) = some (.inl (G.2.1 0, 120, .inl (fun a9 => nI (Y.rw a9)))) := by rw [hM1, zw_un _ _ (by omega)]; exact hrw
  have hnu : M1 (z + 6) = some (.inl (G.2.1 0, 120, .inl Y.nu)) := by rw [hM1, zw_un _ _ (by omega)]; exact hnu
  have hfr : M1 (z + 7) = some (.inl (G.2.1 0, 120, .inl Y.fr)) := by rw [hM1, zw_un _ _ (by omega)]; exact hfr
  have hto : M1 (z + 8) = some (.inl (G.2.1 0, 120, .inl Y.to)) := by rw [hM1, zw_un _ _ (by omega)]; exact hto
  have hsi : M1 (z + 9) = some (.inl (G.2.1 0, 120, .inl Y.si)) := by rw [hM1, zw_un _ _ (by omega)]; exact hsi
  have hcl : M1 (z + 10) = some (.inl (G.2.1 1, 120, .inr (.inl Y.cl))) := by rw [hM1, zw_un _ _ (by omega)]; exact hcl
  have hins : M1 (z + 11) = some (.inl (G.2.1 0, 57600, .inl Y.ins)) := by rw [hM1, zw_un _ _ (by omega)]; exact hins
  have hpart : M1 (z + 12) = some (.inl (G.2.1 0, 480, .inl Y.part)) := by rw [hM1, zw_un _ _ (by omega)]; exact hpart
  have hx0 : M1 x = some (.inr (2, zoR 0 n mb z st.fl.length st.se st.lo st.go st.pa pt)) := by rw [hM1]; exact zw_us _ _ _
  refine lv_aload_n hx hb dR_up_5 rfl (lv_at hl 0 rfl) ?_
  refine lv_iload_n hx hb dR_up_6 rfl (lv_at hl 1 rfl) ?_
  have hkx : ∀ a : Nat, a ≠ x → M1 a = M a := fun a h1 => by rw [hM1, zw_un _ _ h1]
  have hRn : zRR G M1 x z n mb st 0 pt Y := hR.cnt (st' := st) rfl rfl rfl rfl hx0 (fun a e h1 h2 => (hkx a h1).trans h2)
  refine zr_V (As := [.int (nI j)]) (rest := []) (q := (RR, TR, 22)) ⟨hx, hb, hml, hown, hz⟩ (kR_isReplica_in l G B M1 x z n mb st 0 pt Y hn hRn j hj) (zt_V zm_463 zm_465 zs_15 zm_3 zm_466) rfl rfl rfl (show _ ∧ _ ∧ _ ∧ _ = some 1 from by decide +kernel) ⟨Nat.le_of_ble_eq_true rfl, Nat.le_of_ble_eq_true rfl⟩ zE_blind (zE_at hE hS) hH hK hx0 rfl rfl hl.1 rfl (Nat.le_of_ble_eq_true rfl) dR_up_7 ⟨Nat.le_of_ble_eq_true rfl, Nat.le_of_ble_eq_true rfl⟩ ?_
  refine zc_eq0 (tgt := 35) hx hb dR_up_10 (by decide) (by decide) (fun b53 => ?_) (fun b53 => ?_)
  · exact absurd b53 (by decide)
  · refine lv_aload_n hx hb dR_up_13 rfl (lv_at hl 0 rfl) ?_
    refine va_get (D := G.1) (ci := 2) (v := .ref z) (C := RR) (T := TR) (N := 22) hx hb hz iR hown hK (hH.one hx0) 0 rfl rfl 3 (by decide) (hz _ zm_391) (fun _ h9 => h9) rfl dR_up_14 ?_
    refine lv_aload_n hx hb dR_up_17 rfl (lv_at hl 0 rfl) ?_
    refine lv_iload_n hx hb dR_up_18 rfl (lv_at hl 1 rfl) ?_
    refine zr_V (As := [.int (nI j)]) (rest := [.ref z]) (q := (RR, TR, 22)) ⟨hx, hb, hml, hown, hz⟩ (kR_isReplica_in l G B M1 x z n mb st 0 pt Y hn hRn j hj) (zt_V zm_463 zm_465 zs_15 zm_3 zm_466) rfl rfl rfl (show _ ∧ _ ∧ _ ∧ _ = some 1 from by decide +kernel) ⟨Nat.le_of_ble_eq_true rfl, Nat.le_of_ble_eq_true rfl⟩ zE_blind (zE_at hE hS) hH hK hx0 rfl rfl hl.1 rfl (Nat.le_of_ble_eq_true rfl) dR_up_19 ⟨Nat.le_of_ble_eq_true rfl, Nat.le_of_ble_eq_true rfl⟩ ?_
    refine zc_eq0 (tgt := 29) hx hb dR_up_22 (by decide) (by decide) (fun b54 => ?_) (fun b54 => ?_)
    · exact absurd b54 (by decide)
    · refine lv_iload_n hx hb dR_up_25 rfl (lv_at hl 1 rfl) ?_
      refine lv_goto (tgt := 30) hx hb dR_up_26 (by decide) ?_
      refine zw_zald hx hb hK hH 2 hdn rfl (j) rfl (by omega) (by decide) dR_up_30 ?_
      refine lv_iload_n hx hb dR_up_31 rfl (lv_at hl 2 rfl) ?_
      refine zc_eq (tgt := 37) hx hb dR_up_32 (by decide) (by omega) (by omega) (fun c2 => ?_) (fun c2 => ?_)
      · exact absurd (zbool_eq c2) hd
      · refine lv_iconst (v := nI 0) hx hb dR_up_35 (by decide) ?_
        have hkx : ∀ a : Nat, a ≠ x → M1 a = M a := fun a h1 => by rw [hM1, zw_un _ _ h1]
        exact W.zret (v := (nI 0)) (ty := .boolean) hx hb hr rfl (fun t ht hW => ⟨⟨(nI 0), (M1, sz), rfl, ⟨rfl, ⟨pt, Y, hR.cnt (st' := st) rfl rfl rfl rfl hx0 (fun a e h1 h2 => (hkx a h1).trans h2)⟩, fun q h1 h2 => hkx q h1, rfl⟩, by rw [ht]; exact hH, by rw [ht]; exact hsz⟩, hS.F ht⟩) hS.2.2 dR_up_36

set_option maxHeartbeats 4000000 in
set_option maxRecDepth 100000 in
theorem kR_up_out (l : Launch) (G : zG) (B : Nat) (M : zw_M) (sz : Nat) (x z n mb : Nat) (st : zSt) (th pt : Nat) (Y : zRX) (hn : n ≤ 8) (hR : zRR G M x z n mb st th pt Y) (a : Int32) (ha : a < 0 ∨ nI n ≤ a) (bo : Int32) : Met l yR_up (Cond.code yR_up bR_up 3 (some .boolean) :: zT) { frames := 1, cells := 0, slots := 0, locals := 24 } (zq G B M sz [.ref x, .int a, .int bo]) (va_Qi (fun (r : Int32) (u : zw_M × Nat) => r = nI 0 ∧ zRO G x z n mb sz M st 0 u) (zr_o G.1 zCl B) (zw_A B)) (0) (0) (zw_A B) := by
  refine Met.ofW (cc := bR_up) (maxL := 3) (ret := (some .boolean)) (by decide) rfl ?_
  intro p e s m args below meth c s₁ B0 hml hv
  obtain ⟨rfl, hE, hH, hsz⟩ := hv
  have hx := B0.exec
  have hb := B0.bytes
  have hr := B0.returns
  have hlocks := B0.notSynchronized
  have hz : ∀ w ∈ zT, w.before _ s = true := fun w h => atoms_spec (ws := Cond.code yR_up bR_up 3 (some .boolean) :: zT) B0.pre w (List.mem_cons_of_mem _ h)
  have hown : s.vm.findClass RR = some m.cls := findClass_of_methodNamed B0.named
  have hK := hE.1
  have hl := lv_entry ([.ref x, .int a, .int bo]) (n := 3) (Nat.le_of_ble_eq_true rfl)
  rw [lg_entry_eq]
  generalize (lg_sl ([.ref x, .int a, .int bo]) ++ List.replicate (3 - (lg_sl ([.ref x, .int a, .int bo])).length) Slot.unset).toArray = ls at hl ⊢
  have hl : lv_has ls 3 [(0, .ref x), (1, .int a), (2, .int bo)] := hl
  have hS : va_S (zw_A B) s.heap s.heap [] := va_S.rf
  have hin : meth.name = "up" := (name_of_methodNamed B0.named B0.method).1
  have hx0 := hR.obj
  have hxz := hR.xz
  refine lv_aload_n hx hb dR_up_0 rfl (lv_at hl 0 rfl) ?_
  refine lv_iconst (v := nI 0) hx hb dR_up_1 (by decide) ?_
  refine zw_put (D := G.1) (ci := 2) (v := .int (nI 0)) (ty := .int) (C := RR) (T := TR) (N := 22) hx hb hz iR tR tR_ok nR hown hK hH hS hx0 rfl 0 (by decide) (hz _ zm_388) (fun _ h9 => h9) rfl (by decide +kernel) rfl rfl (Nat.le_of_ble_eq_true rfl) dR_up_2 (fun H1 L1 hH hz1 hS => ?_)
  have hsz : H1.size = sz := hz1.trans hsz
  obtain ⟨M1, hM1⟩ : ∃ Mq, Mq = zw_u M x (.inr (2, zoR 0 n mb z st.fl.length st.se st.lo st.go st.pa pt)) := ⟨_, rfl⟩
  have hH : zw_H G.1 zCl B M1 H1 := by rw [hM1]; exact hH
  have hx0 : M1 x = some (.inr (2, zoR 0 n mb z st.fl.length st.se st.lo st.go st.pa pt)) := by rw [hM1]; exact zw_us _ _ _
  refine lv_aload_n hx hb dR_up_5 rfl (lv_at hl 0 rfl) ?_
  refine lv_iload_n hx hb dR_up_6 rfl (lv_at hl 1 rfl) ?_
  have hkx : ∀ a : Nat, a ≠ x → M1 a = M a := fun a h1 => by rw [hM1, zw_un _ _ h1]
  have hRn : zRR G M1 x z n mb st 0 pt Y := hR.cnt (st' := st) rfl rfl rfl rfl hx0 (fun a e h1 h2 => (hkx a h1).trans h2)
  refine zr_V (As := [.int a]) (rest := []) (q := (RR, TR, 22)) ⟨hx, hb, hml, hown, hz⟩ (kR_isReplica_out l G B M1 x z n mb st 0 pt Y hn hRn a ha) (zt_V zm_463 zm_465 zs_15 zm_3 zm_466) rfl rfl rfl (show _ ∧ _ ∧ _ ∧ _ = some 1 from by decide +kernel) ⟨Nat.le_of_ble_eq_true rfl, Nat.le_of_ble_eq_true rfl⟩ zE_blind (zE_at hE hS) hH hK hx0 rfl rfl hl.1 rfl (Nat.le_of_ble_eq_true rfl) dR_up_7 ⟨Nat.le_of_ble_eq_true rfl, Nat.le_of_ble_eq_true rfl⟩ ?_
  refine zc_eq0 (tgt := 35) hx hb dR_up_10 (by decide) (by decide) (fun b55 => ?_) (fun b55 => ?_)
  · refine lv_iconst (v := nI 0) hx hb dR_up_35 (by decide) ?_
    have hkx : ∀ a : Nat, a ≠ x → M1 a = M a := fun a h1 => by rw [hM1, zw_un _ _ h1]
    exact W.zret (v := (nI 0)) (ty := .boolean) hx hb hr rfl (fun t ht hW => ⟨⟨(nI 0), (M1, sz), rfl, ⟨rfl, ⟨pt, Y, hR.cnt (st' := st) rfl rfl rfl rfl hx0 (fun a e h1 h2 => (hkx a h1).trans h2)⟩, fun q h1 h2 => hkx q h1, rfl⟩, by rw [ht]; exact hH, by rw [ht]; exact hsz⟩, hS.F ht⟩) hS.2.2 dR_up_36
  · exact absurd b55 (by decide)

set_option maxHeartbeats 4000000 in
set_option maxRecDepth 100000 in
theorem kR_make1 (l : Launch) (G : zG) (B : Nat) (M : zw_M) (sz : Nat) (x z n mb : Nat) (st : zSt) (th pt : Nat) (Y : zRX) (hn : n ≤ 8) (hR : zRR G M x z n mb st th pt Y) (a : Int32) (ha : a < 0 ∨ nI n ≤ a) (wg : Int32) : Met l yR_make (Cond.code yR_make bR_make 3 (some .int) :: zT) { frames := 1, cells := 0, slots := 0, locals := 24 } (zq G B M sz [.ref x, .int a, .int wg]) (va_Qi (fun (r : Int32) (u : zw_M × Nat) => r = nI 0 ∧ zRO G x z n mb sz M st 1 u) (zr_o G.1 zCl B) (zw_A B)) (0) (0) (zw_A B) := by
  refine Met.ofW (cc := bR_make) (maxL := 3) (ret := (some .int)) (by decide) rfl ?_
  intro p e s m args below meth c s₁ B0 hml hv
  obtain ⟨rfl, hE, hH, hsz⟩ := hv
  have hx := B0.exec
  have hb := B0.bytes
  have hr := B0.returns
  have hlocks := B0.notSynchronized
  have hz : ∀ w ∈ zT, w.before _ s = true := fun w h => atoms_spec (ws := Cond.code yR_make bR_make 3 (some .int) :: zT) B0.pre w (List.mem_cons_of_mem _ h)
  have hown : s.vm.findClass RR = some m.cls := findClass_of_methodNamed B0.named
  have hK := hE.1
  have hl := lv_entry ([.ref x, .int a, .int wg]) (n := 3) (Nat.le_of_ble_eq_true rfl)
  rw [lg_entry_eq]
  generalize (lg_sl ([.ref x, .int a, .int wg]) ++ List.replicate (3 - (lg_sl ([.ref x, .int a, .int wg])).length) Slot.unset).toArray = ls at hl ⊢
  have hl : lv_has ls 3 [(0, .ref x), (1, .int a), (2, .int wg)] := hl
  have hS : va_S (zw_A B) s.heap s.heap [] := va_S.rf
  have hin : meth.name = "make" := (name_of_methodNamed B0.named B0.method).1
  have hx0 := hR.obj
  have hxz := hR.xz
  refine lv_aload_n hx hb dR_make_0 rfl (lv_at hl 0 rfl) ?_
  refine lv_aload_n hx hb dR_make_1 rfl (lv_at hl 0 rfl) ?_
  refine lv_iload_n hx hb dR_make_2 rfl (lv_at hl 1 rfl) ?_
  refine zr_V (As := [.int a]) (rest := [.ref x]) (q := (RR, TR, 22)) ⟨hx, hb, hml, hown, hz⟩ (kR_isReplica_out l G B M x z n mb st th pt Y hn hR a ha) (zt_V zm_463 zm_465 zs_15 zm_3 zm_466) rfl rfl rfl (show _ ∧ _ ∧ _ ∧ _ = some 1 from by decide +kernel) ⟨Nat.le_of_ble_eq_true rfl, Nat.le_of_ble_eq_true rfl⟩ zE_blind (zE_at hE hS) hH hK hx0 rfl rfl hl.1 rfl (Nat.le_of_ble_eq_true rfl) dR_make_3 ⟨Nat.le_of_ble_eq_true rfl, Nat.le_of_ble_eq_true rfl⟩ ?_
  refine zc_ne0 (tgt := 13) hx hb dR_make_6 (by decide) (by decide) (fun b56 => ?_) (fun b56 => ?_)
  · exact absurd b56 (by decide)
  · refine lv_iconst (v := nI 1) hx hb dR_make_9 (by decide) ?_
    refine lv_goto (tgt := 78) hx hb dR_make_10 (by decide) ?_
    refine zw_put (D := G.1) (ci := 2) (v := .int (nI 1)) (ty := .int) (C := RR) (T := TR) (N := 22) hx hb hz iR tR tR_ok nR hown hK hH hS hx0 rfl 0 (by decide) (hz _ zm_388) (fun _ h9 => h9) rfl (by decide +kernel) rfl rfl (Nat.le_of_ble_eq_true rfl) dR_make_78 (fun H1 L1 hH hz1 hS => ?_)
    have hsz : H1.size = sz := hz1.trans hsz
    obtain ⟨M1, hM1⟩ : ∃ Mq, Mq = zw_u M x (.inr (2, zoR 1 n mb z st.fl.length st.se st.lo st.go st.pa pt)) := ⟨_, rfl⟩
    have hH : zw_H G.1 zCl B M1 H1 := by rw [hM1]; exact hH
    have hx0 : M1 x = some (.inr (2, zoR 1 n mb z st.fl.length st.se st.lo st.go st.pa pt)) := by rw [hM1]; exact zw_us _ _ _
    refine lv_aload_n hx hb dR_make_81 rfl (lv_at hl 0 rfl) ?_
    refine va_get (D := G.1) (ci := 2) (v := .int (nI 1)) (C := RR) (T := TR) (N := 22) hx hb hz iR hown hK (hH.one hx0) 0 rfl rfl 0 (by decide) (hz _ zm_388) (fun _ h9 => h9) rfl dR_make_82 ?_
    refine zc_le0 (tgt := 90) hx hb dR_make_85 (by decide) (by decide) (fun b57 => ?_) (fun b57 => ?_)
    · exact absurd b57 (by decide)
    · refine lv_iconst (v := nI 0) hx hb dR_make_88 (by decide) ?_
      have hkx : ∀ a : Nat, a ≠ x → M1 a = M a := fun a h1 => by rw [hM1, zw_un _ _ h1]
      exact W.iret (v := (nI 0)) hx hb hr (fun t ht hW => ⟨⟨(nI 0), (M1, sz), rfl, ⟨rfl, ⟨pt, Y, hR.cnt (st' := st) rfl rfl rfl rfl hx0 (fun a e h1 h2 => (hkx a h1).trans h2)⟩, fun q h1 h2 => hkx q h1, rfl⟩, by rw [ht]; exact hH, by rw [ht]; exact hsz⟩, hS.F ht⟩) hS.2.2 dR_make_89

set_option maxHeartbeats 4000000 in
set_option maxRecDepth 100000 in
theorem kR_make2 (l : Launch) (G : zG) (B : Nat) (M : zw_M) (sz : Nat) (x z n mb : Nat) (st : zSt) (th pt : Nat) (Y : zRX) (hn : n ≤ 8) (hR : zRR G M x z n mb st th pt Y) (j : Nat) (hj : j < n) (wg : Int32) (hw : wg < nI 1 ∨ ¬ wg ≤ nI 400) : Met l yR_make (Cond.code yR_make bR_make 3 (some .int) :: zT) { frames := 1, cells := 0, slots := 0, locals := 24 } (zq G B M sz [.ref x, .int (nI j), .int wg]) (va_Qi (fun (r : Int32) (u : zw_M × Nat) => r = nI 0 ∧ zRO G x z n mb sz M st 2 u) (zr_o G.1 zCl B) (zw_A B)) (0) (0) (zw_A B) := by
  refine Met.ofW (cc := bR_make) (maxL := 3) (ret := (some .int)) (by decide) rfl ?_
  intro p e s m args below meth c s₁ B0 hml hv
  obtain ⟨rfl, hE, hH, hsz⟩ := hv
  have hx := B0.exec
  have hb := B0.bytes
  have hr := B0.returns
  have hlocks := B0.notSynchronized
  have hz : ∀ w ∈ zT, w.before _ s = true := fun w h => atoms_spec (ws := Cond.code yR_make bR_make 3 (some .int) :: zT) B0.pre w (List.mem_cons_of_mem _ h)
  have hown : s.vm.findClass RR = some m.cls := findClass_of_methodNamed B0.named
  have hK := hE.1
  have hl := lv_entry ([.ref x, .int (nI j), .int wg]) (n := 3) (Nat.le_of_ble_eq_true rfl)
  rw [lg_entry_eq]
  generalize (lg_sl ([.ref x, .int (nI j), .int wg]) ++ List.replicate (3 - (lg_sl ([.ref x, .int (nI j), .int wg])).length) Slot.unset).toArray = ls at hl ⊢
  have hl : lv_has ls 3 [(0, .ref x), (1, .int (nI j)), (2, .int wg)] := hl
  have hS : va_S (zw_A B) s.heap s.heap [] := va_S.rf
  have hin : meth.name = "make" := (name_of_methodNamed B0.named B0.method).1
  have hx0 := hR.obj
  have hxz := hR.xz
  refine lv_aload_n hx hb dR_make_0 rfl (lv_at hl 0 rfl) ?_
  refine lv_aload_n hx hb dR_make_1 rfl (lv_at hl 0 rfl) ?_
  refine lv_iload_n hx hb dR_make_2 rfl (lv_at hl 1 rfl) ?_
  refine zr_V (As := [.int (nI j)]) (rest := [.ref x]) (q := (RR, TR, 22)) ⟨hx, hb, hml, hown, hz⟩ (kR_isReplica_in l G B M x z n mb st th pt Y hn hR j hj) (zt_V zm_463 zm_465 zs_15 zm_3 zm_466) rfl rfl rfl (show _ ∧ _ ∧ _ ∧ _ = some 1 from by decide +kernel) ⟨Nat.le_of_ble_eq_true rfl, Nat.le_of_ble_eq_true rfl⟩ zE_blind (zE_at hE hS) hH hK hx0 rfl rfl hl.1 rfl (Nat.le_of_ble_eq_true rfl) dR_make_3 ⟨Nat.le_of_ble_eq_true rfl, Nat.le_of_ble_eq_true rfl⟩ ?_
  refine zc_ne0 (tgt := 13) hx hb dR_make_6 (by decide) (by decide) (fun b58 => ?_) (fun b58 => ?_)
  · refine lv_iload_n hx hb dR_make_13 rfl (lv_at hl 2 rfl) ?_
    refine lv_iconst (v := nI 1) hx hb dR_make_14 (by decide) ?_
    refine lv_icmp_lt (tgt := 25) hx hb dR_make_15 (by decide) (fun c2 => ?_) (fun c2 => ?_)
    · refine lv_iconst (v := nI 2) hx hb dR_make_25 (by decide) ?_
      refine lv_goto (tgt := 78) hx hb dR_make_26 (by decide) ?_
      refine zw_put (D := G.1) (ci := 2) (v := .int (nI 2)) (ty := .int) (C := RR) (T := TR) (N := 22) hx hb hz iR tR tR_ok nR hown hK hH hS hx0 rfl 0 (by decide) (hz _ zm_388) (fun _ h9 => h9) rfl (by decide +kernel) rfl rfl (Nat.le_of_ble_eq_true rfl) dR_make_78 (fun H1 L1 hH hz1 hS => ?_)
      have hsz : H1.size = sz := hz1.trans hsz
      obtain ⟨M1, hM1⟩ : ∃ Mq, Mq = zw_u M x (.inr (2, zoR 2 n mb z st.fl.length st.se st.lo st.go st.pa pt)) := ⟨_, rfl⟩
      have hH : zw_H G.1 zCl B M1 H1 := by rw [hM1]; exact hH
      have hx0 : M1 x = some (.inr (2, zoR 2 n mb z st.fl.length st.se st.lo st.go st.pa pt)) := by rw [hM1]; exact zw_us _ _ _
      refine lv_aload_n hx hb dR_make_81 rfl (lv_at hl 0 rfl) ?_
      refine va_get (D := G.1) (ci := 2) (v := .int (nI 2)) (C := RR) (T := TR) (N := 22) hx hb hz iR hown hK (hH.one hx0) 0 rfl rfl 0 (by decide) (hz _ zm_388) (fun _ h9 => h9) rfl dR_make_82 ?_
      refine zc_le0 (tgt := 90) hx hb dR_make_85 (by decide) (by decide) (fun b59 => ?_) (fun b59 => ?_)
      · exact absurd b59 (by decide)
      · refine lv_iconst (v := nI 0) hx hb dR_make_88 (by decide) ?_
        have hkx : ∀ a : Nat, a ≠ x → M1 a = M a := fun a h1 => by rw [hM1, zw_un _ _ h1]
        exact W.iret (v := (nI 0)) hx hb hr (fun t ht hW => ⟨⟨(nI 0), (M1, sz), rfl, ⟨rfl, ⟨pt, Y, hR.cnt (st' := st) rfl rfl rfl rfl hx0 (fun a e h1 h2 => (hkx a h1).trans h2)⟩, fun q h1 h2 => hkx q h1, rfl⟩, by rw [ht]; exact hH, by rw [ht]; exact hsz⟩, hS.F ht⟩) hS.2.2 dR_make_89
    · refine lv_iload_n hx hb dR_make_18 rfl (lv_at hl 2 rfl) ?_
      refine lv_sipush (v := nI 400) hx hb dR_make_19 (by decide) ?_
      refine lv_icmp_le (tgt := 29) hx hb dR_make_22 (by decide) (fun c3 => ?_) (fun c3 => ?_)
      · exact absurd c3 (hw.resolve_left c2)
      · refine lv_iconst (v := nI 2) hx hb dR_make_25 (by decide) ?_
        refine lv_goto (tgt := 78) hx hb dR_make_26 (by decide) ?_
        refine zw_put (D := G.1) (ci := 2) (v := .int (nI 2)) (ty := .int) (C := RR) (T := TR) (N := 22) hx hb hz iR tR tR_ok nR hown hK hH hS hx0 rfl 0 (by decide) (hz _ zm_388) (fun _ h9 => h9) rfl (by decide +kernel) rfl rfl (Nat.le_of_ble_eq_true rfl) dR_make_78 (fun H1 L1 hH hz1 hS => ?_)
        have hsz : H1.size = sz := hz1.trans hsz
        obtain ⟨M1, hM1⟩ : ∃ Mq, Mq = zw_u M x (.inr (2, zoR 2 n mb z st.fl.length st.se st.lo st.go st.pa pt)) := ⟨_, rfl⟩
        have hH : zw_H G.1 zCl B M1 H1 := by rw [hM1]; exact hH
        have hx0 : M1 x = some (.inr (2, zoR 2 n mb z st.fl.length st.se st.lo st.go st.pa pt)) := by rw [hM1]; exact zw_us _ _ _
        refine lv_aload_n hx hb dR_make_81 rfl (lv_at hl 0 rfl) ?_
        refine va_get (D := G.1) (ci := 2) (v := .int (nI 2)) (C := RR) (T := TR) (N := 22) hx hb hz iR hown hK (hH.one hx0) 0 rfl rfl 0 (by decide) (hz _ zm_388) (fun _ h9 => h9) rfl dR_make_82 ?_
        refine zc_le0 (tgt := 90) hx hb dR_make_85 (by decide) (by decide) (fun b60 => ?_) (fun b60 => ?_)
        · exact absurd b60 (by decide)
        · refine lv_iconst (v := nI 0) hx hb dR_make_88 (by decide) ?_
          have hkx : ∀ a : Nat, a ≠ x → M1 a = M a := fun a h1 => by rw [hM1, zw_un _ _ h1]
          exact W.iret (v := (nI 0)) hx hb hr (fun t ht hW => ⟨⟨(nI 0), (M1, sz), rfl, ⟨rfl, ⟨pt, Y, hR.cnt (st' := st) rfl rfl rfl rfl hx0 (fun a e h1 h2 => (hkx a h1).trans h2)⟩, fun q h1 h2 => hkx q h1, rfl⟩, by rw [ht]; exact hH, by rw [ht]; exact hsz⟩, hS.F ht⟩) hS.2.2 dR_make_89
  · exact absurd b58 (by decide)

set_option maxHeartbeats 4000000 in
set_option maxRecDepth 100000 in
theorem kR_make3 (l : Launch) (G : zG) (B : Nat) (M : zw_M) (sz : Nat) (x z n mb : Nat) (st : zSt) (th pt : Nat) (Y : zRX) (hn : n ≤ 8) (hR : zRR G M x z n mb st th pt Y) (hok : zOK n st) (j wg : Nat) (hj : j < n) (hw1 : 1 ≤ wg) (hw4 : wg ≤ 400) (hd : st.dn j = true ∨ (st.wt j).length = 60) : Met l yR_make (Cond.code yR_make bR_make 3 (some .int) :: zT) { frames := 1, cells := 0, slots := 0, locals := 24 } (zq G B M sz [.ref x, .int (nI j), .int (nI wg)]) (va_Qi (fun (r : Int32) (u : zw_M × Nat) => r = nI 0 ∧ zRO G x z n mb sz M st 3 u) (zr_o G.1 zCl B) (zw_A B)) (0) (0) (zw_A B) := by
  refine Met.ofW (cc := bR_make) (maxL := 3) (ret := (some .int)) (by decide) rfl ?_
  intro p e s m args below meth c s₁ B0 hml hv
  obtain ⟨rfl, hE, hH, hsz⟩ := hv
  have hx := B0.exec
  have hb := B0.bytes
  have hr := B0.returns
  have hlocks := B0.notSynchronized
  have hz : ∀ w ∈ zT, w.before _ s = true := fun w h => atoms_spec (ws := Cond.code yR_make bR_make 3 (some .int) :: zT) B0.pre w (List.mem_cons_of_mem _ h)
  have hown : s.vm.findClass RR = some m.cls := findClass_of_methodNamed B0.named
  have hK := hE.1
  have hl := lv_entry ([.ref x, .int (nI j), .int (nI wg)]) (n := 3) (Nat.le_of_ble_eq_true rfl)
  rw [lg_entry_eq]
  generalize (lg_sl ([.ref x, .int (nI j), .int (nI wg)]) ++ List.replicate (3 - (lg_sl ([.ref x, .int (nI j), .int (nI wg)])).length) Slot.unset).toArray = ls at hl ⊢
  have hl : lv_has ls 3 [(0, .ref x), (1, .int (nI j)), (2, .int (nI wg))] := hl
  have hS : va_S (zw_A B) s.heap s.heap [] := va_S.rf
  have hin : meth.name = "make" := (name_of_methodNamed B0.named B0.method).1
  have hb1 := zbool (st.dn j)
  have h60 := (hok.2.2.1 _ hj).2
  have hx0 := hR.obj
  have hdn := hR.dn
  have hmd := hR.md
  have hxz := hR.xz
  refine lv_aload_n hx hb dR_make_0 rfl (lv_at hl 0 rfl) ?_
  refine lv_aload_n hx hb dR_make_1 rfl (lv_at hl 0 rfl) ?_
  refine lv_iload_n hx hb dR_make_2 rfl (lv_at hl 1 rfl) ?_
  refine zr_V (As := [.int (nI j)]) (rest := [.ref x]) (q := (RR, TR, 22)) ⟨hx, hb, hml, hown, hz⟩ (kR_isReplica_in l G B M x z n mb st th pt Y hn hR j hj) (zt_V zm_463 zm_465 zs_15 zm_3 zm_466) rfl rfl rfl (show _ ∧ _ ∧ _ ∧ _ = some 1 from by decide +kernel) ⟨Nat.le_of_ble_eq_true rfl, Nat.le_of_ble_eq_true rfl⟩ zE_blind (zE_at hE hS) hH hK hx0 rfl rfl hl.1 rfl (Nat.le_of_ble_eq_true rfl) dR_make_3 ⟨Nat.le_of_ble_eq_true rfl, Nat.le_of_ble_eq_true rfl⟩ ?_
  refine zc_ne0 (tgt := 13) hx hb dR_make_6 (by decide) (by decide) (fun b61 => ?_) (fun b61 => ?_)
  · refine lv_iload_n hx hb dR_make_13 rfl (lv_at hl 2 rfl) ?_
    refine lv_iconst (v := nI 1) hx hb dR_make_14 (by decide) ?_
    refine zc_lt (tgt := 25) hx hb dR_make_15 (by decide) (by omega) (by decide) (fun c2 => ?_) (fun c2 => ?_)
    · exact absurd c2 (by omega)
    · refine lv_iload_n hx hb dR_make_18 rfl (lv_at hl 2 rfl) ?_
      refine lv_sipush (v := nI 400) hx hb dR_make_19 (by decide) ?_
      refine zc_le (tgt := 29) hx hb dR_make_22 (by decide) (by omega) (by decide) (fun c3 => ?_) (fun c3 => ?_)
      · refine lv_aload_n hx hb dR_make_29 rfl (lv_at hl 0 rfl) ?_
        refine va_get (D := G.1) (ci := 2) (v := .ref z) (C := RR) (T := TR) (N := 22) hx hb hz iR hown hK (hH.one hx0) 0 rfl rfl 3 (by decide) (hz _ zm_391) (fun _ h9 => h9) rfl dR_make_30 ?_
        refine lv_aload_n hx hb dR_make_33 rfl (lv_at hl 0 rfl) ?_
        refine lv_iload_n hx hb dR_make_34 rfl (lv_at hl 1 rfl) ?_
        refine zr_V (As := [.int (nI j)]) (rest := [.ref z, .ref x]) (q := (RR, TR, 22)) ⟨hx, hb, hml, hown, hz⟩ (kR_isReplica_in l G B M x z n mb st th pt Y hn hR j hj) (zt_V zm_463 zm_465 zs_15 zm_3 zm_466) rfl rfl rfl (show _ ∧ _ ∧ _ ∧ _ = some 1 from by decide +kernel) ⟨Nat.le_of_ble_eq_true rfl, Nat.le_of_ble_eq_true rfl⟩ zE_blind (zE_at hE hS) hH hK hx0 rfl rfl hl.1 rfl (Nat.le_of_ble_eq_true rfl) dR_make_35 ⟨Nat.le_of_ble_eq_true rfl, Nat.le_of_ble_eq_true rfl⟩ ?_
        refine zc_eq0 (tgt := 45) hx hb dR_make_38 (by decide) (by decide) (fun b62 => ?_) (fun b62 => ?_)
        · exact absurd b62 (by decide)
        · refine lv_iload_n hx hb dR_make_41 rfl (lv_at hl 1 rfl) ?_
          refine lv_goto (tgt := 46) hx hb dR_make_42 (by decide) ?_
          refine zw_zald hx hb hK hH 2 hdn rfl (j) rfl (by omega) (by decide) dR_make_46 ?_
          refine zc_ne0 (tgt := 73) hx hb dR_make_47 (by decide) (by omega) (fun c4 => ?_) (fun c4 => ?_)
          · refine lv_iconst (v := nI 3) hx hb dR_make_73 (by decide) ?_
            refine lv_goto (tgt := 78) hx hb dR_make_74 (by decide) ?_
            refine zw_put (D := G.1) (ci := 2) (v := .int (nI 3)) (ty := .int) (C := RR) (T := TR) (N := 22) hx hb hz iR tR tR_ok nR hown hK hH hS hx0 rfl 0 (by decide) (hz _ zm_388) (fun _ h9 => h9) rfl (by decide +kernel) rfl rfl (Nat.le_of_ble_eq_true rfl) dR_make_78 (fun H1 L1 hH hz1 hS => ?_)
            have hsz : H1.size = sz := hz1.trans hsz
            obtain ⟨M1, hM1⟩ : ∃ Mq, Mq = zw_u M x (.inr (2, zoR 3 n mb z st.fl.length st.se st.lo st.go st.pa pt)) := ⟨_, rfl⟩
            have hH : zw_H G.1 zCl B M1 H1 := by rw [hM1]; exact hH
            have hdn : M1 z = some (.inl (G.2.1 2, 8, .inl (fun a9 => nI (st.dn a9).toNat))) := by rw [hM1, zw_un _ _ (by omega)]; exact hdn
            have hmd : M1 (z + 1) = some (.inl (G.2.1 0, 8, .inl (fun a9 => nI ((st.wt a9).length)))) := by rw [hM1, zw_un _ _ (by omega)]; exact hmd
            have hx0 : M1 x = some (.inr (2, zoR 3 n mb z st.fl.length st.se st.lo st.go st.pa pt)) := by rw [hM1]; exact zw_us _ _ _
            refine lv_aload_n hx hb dR_make_81 rfl (lv_at hl 0 rfl) ?_
            refine va_get (D := G.1) (ci := 2) (v := .int (nI 3)) (C := RR) (T := TR) (N := 22) hx hb hz iR hown hK (hH.one hx0) 0 rfl rfl 0 (by decide) (hz _ zm_388) (fun _ h9 => h9) rfl dR_make_82 ?_
            refine zc_le0 (tgt := 90) hx hb dR_make_85 (by decide) (by decide) (fun b63 => ?_) (fun b63 => ?_)
            · exact absurd b63 (by decide)
            · refine lv_iconst (v := nI 0) hx hb dR_make_88 (by decide) ?_
              have hkx : ∀ a : Nat, a ≠ x → M1 a = M a := fun a h1 => by rw [hM1, zw_un _ _ h1]
              exact W.iret (v := (nI 0)) hx hb hr (fun t ht hW => ⟨⟨(nI 0), (M1, sz), rfl, ⟨rfl, ⟨pt, Y, hR.cnt (st' := st) rfl rfl rfl rfl hx0 (fun a e h1 h2 => (hkx a h1).trans h2)⟩, fun q h1 h2 => hkx q h1, rfl⟩, by rw [ht]; exact hH, by rw [ht]; exact hsz⟩, hS.F ht⟩) hS.2.2 dR_make_89
          · refine lv_aload_n hx hb dR_make_50 rfl (lv_at hl 0 rfl) ?_
            refine va_get (D := G.1) (ci := 2) (v := .ref (z + 1)) (C := RR) (T := TR) (N := 22) hx hb hz iR hown hK (hH.one hx0) 0 rfl rfl 4 (by decide) (hz _ zm_392) (fun _ h9 => h9) rfl dR_make_51 ?_
            refine lv_aload_n hx hb dR_make_54 rfl (lv_at hl 0 rfl) ?_
            refine lv_iload_n hx hb dR_make_55 rfl (lv_at hl 1 rfl) ?_
            refine zr_V (As := [.int (nI j)]) (rest := [.ref (z + 1), .ref x]) (q := (RR, TR, 22)) ⟨hx, hb, hml, hown, hz⟩ (kR_isReplica_in l G B M x z n mb st th pt Y hn hR j hj) (zt_V zm_463 zm_465 zs_15 zm_3 zm_466) rfl rfl rfl (show _ ∧ _ ∧ _ ∧ _ = some 1 from by decide +kernel) ⟨Nat.le_of_ble_eq_true rfl, Nat.le_of_ble_eq_true rfl⟩ zE_blind (zE_at hE hS) hH hK hx0 rfl rfl hl.1 rfl (Nat.le_of_ble_eq_true rfl) dR_make_56 ⟨Nat.le_of_ble_eq_true rfl, Nat.le_of_ble_eq_true rfl⟩ ?_
            refine zc_eq0 (tgt := 66) hx hb dR_make_59 (by decide) (by decide) (fun b64 => ?_) (fun b64 => ?_)
            · exact absurd b64 (by decide)
            · refine lv_iload_n hx hb dR_make_62 rfl (lv_at hl 1 rfl) ?_
              refine lv_goto (tgt := 67) hx hb dR_make_63 (by decide) ?_
              refine zw_iald hx hb hK hH 0 hmd rfl (j) rfl (by omega) (by decide) dR_make_67 ?_
              refine lv_bipush (v := nI 60) hx hb dR_make_68 (by decide) ?_
              refine zc_ne (tgt := 77) hx hb dR_make_70 (by decide) (by omega) (by decide) (fun c5 => ?_) (fun c5 => ?_)
              · exact absurd c5 (by rcases hd with h | h; exact absurd c4 (by rw [h]; decide); omega)
              · refine lv_iconst (v := nI 3) hx hb dR_make_73 (by decide) ?_
                refine lv_goto (tgt := 78) hx hb dR_make_74 (by decide) ?_
                refine zw_put (D := G.1) (ci := 2) (v := .int (nI 3)) (ty := .int) (C := RR) (T := TR) (N := 22) hx hb hz iR tR tR_ok nR hown hK hH hS hx0 rfl 0 (by decide) (hz _ zm_388) (fun _ h9 => h9) rfl (by decide +kernel) rfl rfl (Nat.le_of_ble_eq_true rfl) dR_make_78 (fun H1 L1 hH hz1 hS => ?_)
                have hsz : H1.size = sz := hz1.trans hsz
                obtain ⟨M1, hM1⟩ : ∃ Mq, Mq = zw_u M x (.inr (2, zoR 3 n mb z st.fl.length st.se st.lo st.go st.pa pt)) := ⟨_, rfl⟩
                have hH : zw_H G.1 zCl B M1 H1 := by rw [hM1]; exact hH
                have hdn : M1 z = some (.inl (G.2.1 2, 8, .inl (fun a9 => nI (st.dn a9).toNat))) := by rw [hM1, zw_un _ _ (by omega)]; exact hdn
                have hmd : M1 (z + 1) = some (.inl (G.2.1 0, 8, .inl (fun a9 => nI ((st.wt a9).length)))) := by rw [hM1, zw_un _ _ (by omega)]; exact hmd
                have hx0 : M1 x = some (.inr (2, zoR 3 n mb z st.fl.length st.se st.lo st.go st.pa pt)) := by rw [hM1]; exact zw_us _ _ _
                refine lv_aload_n hx hb dR_make_81 rfl (lv_at hl 0 rfl) ?_
                refine va_get (D := G.1) (ci := 2) (v := .int (nI 3)) (C := RR) (T := TR) (N := 22) hx hb hz iR hown hK (hH.one hx0) 0 rfl rfl 0 (by decide) (hz _ zm_388) (fun _ h9 => h9) rfl dR_make_82 ?_
                refine zc_le0 (tgt := 90) hx hb dR_make_85 (by decide) (by decide) (fun b65 => ?_) (fun b65 => ?_)
                · exact absurd b65 (by decide)
                · refine lv_iconst (v := nI 0) hx hb dR_make_88 (by decide) ?_
                  have hkx : ∀ a : Nat, a ≠ x → M1 a = M a := fun a h1 => by rw [hM1, zw_un _ _ h1]
                  exact W.iret (v := (nI 0)) hx hb hr (fun t ht hW => ⟨⟨(nI 0), (M1, sz), rfl, ⟨rfl, ⟨pt, Y, hR.cnt (st' := st) rfl rfl rfl rfl hx0 (fun a e h1 h2 => (hkx a h1).trans h2)⟩, fun q h1 h2 => hkx q h1, rfl⟩, by rw [ht]; exact hH, by rw [ht]; exact hsz⟩, hS.F ht⟩) hS.2.2 dR_make_89
      · exact absurd c3 (by omega)
  · exact absurd b61 (by decide)

theorem zwt_u {st : zSt} {j wg : Nat} (hl : (st.wt j).length < 61) : upd (fun a9 => nI ((st.wt (a9 / 61)).getD (a9 % 61) 0)) (61 * j + (st.wt j).length) (nI wg) = fun a9 => nI (((zSt.mk st.dn st.lg (fun i => if i = j then st.wt j ++ [wg] else st.wt i) st.fl st.se st.lo st.go st.pa).wt (a9 / 61)).getD (a9 % 61) 0) := by
  obtain ⟨hp1, hp2⟩ := zpl j (st.wt j).length 61 hl
  funext q
  show (if q = _ then _ else _) = nI ((if q / 61 = j then st.wt j ++ [wg] else st.wt (q / 61)).getD (q % 61) 0)
  by_cases h : q = 61 * j + (st.wt j).length
  · rw [if_pos h, h, hp1, hp2, if_pos rfl]; simp
  · rw [if_neg h]
    by_cases h2 : q / 61 = j
    · have h3 : q % 61 ≠ (st.wt j).length := fun e => h (by omega)
      rw [if_pos h2]
      show nI ((st.wt (q / 61)).getD (q % 61) 0) = _
      rw [h2]
      have := congrFun (zlg_app (st.wt j) wg) (q % 61)
      unfold upd at this
      rw [if_neg h3] at this
      exact this
    · rw [if_neg h2]
theorem zmd_u (st : zSt) (j wg : Nat) : upd (fun a9 => nI ((st.wt a9).length)) j (nI ((st.wt j).length + 1)) = fun a9 => nI (((zSt.mk st.dn st.lg (fun i => if i = j then st.wt j ++ [wg] else st.wt i) st.fl st.se st.lo st.go st.pa).wt a9).length) := by
  funext i
  show (if i = j then _ else _) = nI ((if i = j then st.wt j ++ [wg] else st.wt i : List Nat).length)
  by_cases hi : i = j
  · rw [if_pos hi, if_pos hi, List.length_append]; rfl
  · rw [if_neg hi, if_neg hi]
set_option maxHeartbeats 4000000 in
set_option maxRecDepth 100000 in
theorem kR_make (l : Launch) (G : zG) (B : Nat) (M : zw_M) (sz : Nat) (x z n mb : Nat) (st : zSt) (th pt : Nat) (Y : zRX) (hn : n ≤ 8) (hR : zRR G M x z n mb st th pt Y) (hok : zOK n st) (j wg : Nat) (hj : j < n) (hw1 : 1 ≤ wg) (hw4 : wg ≤ 400) (hd : st.dn j = false) (h60 : (st.wt j).length < 60) : Met l yR_make (Cond.code yR_make bR_make 3 (some .int) :: zT) { frames := 1, cells := 0, slots := 0, locals := 24 } (zq G B M sz [.ref x, .int (nI j), .int (nI wg)]) (va_Qi (fun (r : Int32) (u : zw_M × Nat) => r = nI ((st.wt j).length + 1) ∧ zRO G x z n mb sz M (zmake st j wg) 0 u) (zr_o G.1 zCl B) (zw_A B)) (0) (0) (zw_A B) := by
  refine Met.ofW (cc := bR_make) (maxL := 3) (ret := (some .int)) (by decide) rfl ?_
  intro p e s m args below meth c s₁ B0 hml hv
  obtain ⟨rfl, hE, hH, hsz⟩ := hv
  have hx := B0.exec
  have hb := B0.bytes
  have hr := B0.returns
  have hlocks := B0.notSynchronized
  have hz : ∀ w ∈ zT, w.before _ s = true := fun w h => atoms_spec (ws := Cond.code yR_make bR_make 3 (some .int) :: zT) B0.pre w (List.mem_cons_of_mem _ h)
  have hown : s.vm.findClass RR = some m.cls := findClass_of_methodNamed B0.named
  have hK := hE.1
  have hl := lv_entry ([.ref x, .int (nI j), .int (nI wg)]) (n := 3) (Nat.le_of_ble_eq_true rfl)
  rw [lg_entry_eq]
  generalize (lg_sl ([.ref x, .int (nI j), .int (nI wg)]) ++ List.replicate (3 - (lg_sl ([.ref x, .int (nI j), .int (nI wg)])).length) Slot.unset).toArray = ls at hl ⊢
  have hl : lv_has ls 3 [(0, .ref x), (1, .int (nI j)), (2, .int (nI wg))] := hl
  have hS : va_S (zw_A B) s.heap s.heap [] := va_S.rf
  have hin : meth.name = "make" := (name_of_methodNamed B0.named B0.method).1
  have hb1 := zbool (st.dn j)
  have hl4 : (st.lg j).length < n * 60 := by rw [zlen (n := n) _ (fun c hc => (hok.1 j hj c hc).1)]; exact zsum_lt (a := j) (fun i hi => hok.cnt60 hj hi) hj (by rw [(hok.2.2.1 _ hj).1]; omega)
  have hx0 := hR.obj
  have hdn := hR.dn
  have hmd := hR.md
  have hwt := hR.wt
  have hhas := hR.has
  have hmn := hR.mn
  have hrw := hR.rw
  have hnu := hR.nu
  have hfr := hR.fr
  have hto := hR.to
  have hsi := hR.si
  have hcl := hR.cl
  have hins := hR.ins
  have hpart := hR.part
  have hxz := hR.xz
  refine lv_aload_n hx hb dR_make_0 rfl (lv_at hl 0 rfl) ?_
  refine lv_aload_n hx hb dR_make_1 rfl (lv_at hl 0 rfl) ?_
  refine lv_iload_n hx hb dR_make_2 rfl (lv_at hl 1 rfl) ?_
  refine zr_V (As := [.int (nI j)]) (rest := [.ref x]) (q := (RR, TR, 22)) ⟨hx, hb, hml, hown, hz⟩ (kR_isReplica_in l G B M x z n mb st th pt Y hn hR j hj) (zt_V zm_463 zm_465 zs_15 zm_3 zm_466) rfl rfl rfl (show _ ∧ _ ∧ _ ∧ _ = some 1 from by decide +kernel) ⟨Nat.le_of_ble_eq_true rfl, Nat.le_of_ble_eq_true rfl⟩ zE_blind (zE_at hE hS) hH hK hx0 rfl rfl hl.1 rfl (Nat.le_of_ble_eq_true rfl) dR_make_3 ⟨Nat.le_of_ble_eq_true rfl, Nat.le_of_ble_eq_true rfl⟩ ?_
  refine zc_ne0 (tgt := 13) hx hb dR_make_6 (by decide) (by decide) (fun b66 => ?_) (fun b66 => ?_)
  · refine lv_iload_n hx hb dR_make_13 rfl (lv_at hl 2 rfl) ?_
    refine lv_iconst (v := nI 1) hx hb dR_make_14 (by decide) ?_
    refine zc_lt (tgt := 25) hx hb dR_make_15 (by decide) (by omega) (by decide) (fun c2 => ?_) (fun c2 => ?_)
    · exact absurd c2 (by omega)
    · refine lv_iload_n hx hb dR_make_18 rfl (lv_at hl 2 rfl) ?_
      refine lv_sipush (v := nI 400) hx hb dR_make_19 (by decide) ?_
      refine zc_le (tgt := 29) hx hb dR_make_22 (by decide) (by omega) (by decide) (fun c3 => ?_) (fun c3 => ?_)
      · refine lv_aload_n hx hb dR_make_29 rfl (lv_at hl 0 rfl) ?_
        refine va_get (D := G.1) (ci := 2) (v := .ref z) (C := RR) (T := TR) (N := 22) hx hb hz iR hown hK (hH.one hx0) 0 rfl rfl 3 (by decide) (hz _ zm_391) (fun _ h9 => h9) rfl dR_make_30 ?_
        refine lv_aload_n hx hb dR_make_33 rfl (lv_at hl 0 rfl) ?_
        refine lv_iload_n hx hb dR_make_34 rfl (lv_at hl 1 rfl) ?_
        refine zr_V (As := [.int (nI j)]) (rest := [.ref z, .ref x]) (q := (RR, TR, 22)) ⟨hx, hb, hml, hown, hz⟩ (kR_isReplica_in l G B M x z n mb st th pt Y hn hR j hj) (zt_V zm_463 zm_465 zs_15 zm_3 zm_466) rfl rfl rfl (show _ ∧ _ ∧ _ ∧ _ = some 1 from by decide +kernel) ⟨Nat.le_of_ble_eq_true rfl, Nat.le_of_ble_eq_true rfl⟩ zE_blind (zE_at hE hS) hH hK hx0 rfl rfl hl.1 rfl (Nat.le_of_ble_eq_true rfl) dR_make_35 ⟨Nat.le_of_ble_eq_true rfl, Nat.le_of_ble_eq_true rfl⟩ ?_
        refine zc_eq0 (tgt := 45) hx hb dR_make_38 (by decide) (by decide) (fun b67 => ?_) (fun b67 => ?_)
        · exact absurd b67 (by decide)
        · refine lv_iload_n hx hb dR_make_41 rfl (lv_at hl 1 rfl) ?_
          refine lv_goto (tgt := 46) hx hb dR_make_42 (by decide) ?_
          refine zw_zald hx hb hK hH 2 hdn rfl (j) rfl (by omega) (by decide) dR_make_46 ?_
          refine zc_ne0 (tgt := 73) hx hb dR_make_47 (by decide) (by omega) (fun c4 => ?_) (fun c4 => ?_)
          · exact absurd c4 (by rw [hd]; decide)
          · refine lv_aload_n hx hb dR_make_50 rfl (lv_at hl 0 rfl) ?_
            refine va_get (D := G.1) (ci := 2) (v := .ref (z + 1)) (C := RR) (T := TR) (N := 22) hx hb hz iR hown hK (hH.one hx0) 0 rfl rfl 4 (by decide) (hz _ zm_392) (fun _ h9 => h9) rfl dR_make_51 ?_
            refine lv_aload_n hx hb dR_make_54 rfl (lv_at hl 0 rfl) ?_
            refine lv_iload_n hx hb dR_make_55 rfl (lv_at hl 1 rfl) ?_
            refine zr_V (As := [.int (nI j)]) (rest := [.ref (z + 1), .ref x]) (q := (RR, TR, 22)) ⟨hx, hb, hml, hown, hz⟩ (kR_isReplica_in l G B M x z n mb st th pt Y hn hR j hj) (zt_V zm_463 zm_465 zs_15 zm_3 zm_466) rfl rfl rfl (show _ ∧ _ ∧ _ ∧ _ = some 1 from by decide +kernel) ⟨Nat.le_of_ble_eq_true rfl, Nat.le_of_ble_eq_true rfl⟩ zE_blind (zE_at hE hS) hH hK hx0 rfl rfl hl.1 rfl (Nat.le_of_ble_eq_true rfl) dR_make_56 ⟨Nat.le_of_ble_eq_true rfl, Nat.le_of_ble_eq_true rfl⟩ ?_
            refine zc_eq0 (tgt := 66) hx hb dR_make_59 (by decide) (by decide) (fun b68 => ?_) (fun b68 => ?_)
            · exact absurd b68 (by decide)
            · refine lv_iload_n hx hb dR_make_62 rfl (lv_at hl 1 rfl) ?_
              refine lv_goto (tgt := 67) hx hb dR_make_63 (by decide) ?_
              refine zw_iald hx hb hK hH 0 hmd rfl (j) rfl (by omega) (by decide) dR_make_67 ?_
              refine lv_bipush (v := nI 60) hx hb dR_make_68 (by decide) ?_
              refine zc_ne (tgt := 77) hx hb dR_make_70 (by decide) (by omega) (by decide) (fun c5 => ?_) (fun c5 => ?_)
              · refine lv_iconst (v := nI 0) hx hb dR_make_77 (by decide) ?_
                refine zw_put (D := G.1) (ci := 2) (v := .int (nI 0)) (ty := .int) (C := RR) (T := TR) (N := 22) hx hb hz iR tR tR_ok nR hown hK hH hS hx0 rfl 0 (by decide) (hz _ zm_388) (fun _ h9 => h9) rfl (by decide +kernel) rfl rfl (Nat.le_of_ble_eq_true rfl) dR_make_78 (fun H1 L1 hH hz1 hS => ?_)
                have hsz : H1.size = sz := hz1.trans hsz
                obtain ⟨M1, hM1⟩ : ∃ Mq, Mq = zw_u M x (.inr (2, zoR 0 n mb z st.fl.length st.se st.lo st.go st.pa pt)) := ⟨_, rfl⟩
                have hH : zw_H G.1 zCl B M1 H1 := by rw [hM1]; exact hH
                have hdn : M1 z = some (.inl (G.2.1 2, 8, .inl (fun a9 => nI (st.dn a9).toNat))) := by rw [hM1, zw_un _ _ (by omega)]; exact hdn
                have hmd : M1 (z + 1) = some (.inl (G.2.1 0, 8, .inl (fun a9 => nI ((st.wt a9).length)))) := by rw [hM1, zw_un _ _ (by omega)]; exact hmd
                have hwt : M1 (z + 2) = some (.inl (G.2.1 0, 488, .inl (fun a9 => nI ((st.wt (a9 / 61)).getD (a9 % 61) 0)))) := by rw [hM1, zw_un _ _ (by omega)]; exact hwt
                have hhas : M1 (z + 3) = some (.inl (G.2.1 0, 3840, .inl (fun a9 => nI ((st.lg (a9 / 480)).getD (a9 % 480) 0)))) := by rw [hM1, zw_un _ _ (by omega)]; exact hhas
                have hmn : M1 (z + 4) = some (.inl (G.2.1 0, 8, .inl (fun a9 => nI ((st.lg a9).length)))) := by rw [hM1, zw_un _ _ (by omega)]; exact hmn
                have hrw : M1 (z + 5) = some (.inl (G.2.1 0, 120, .inl (fun a9 => nI (Y.rw a9)))) := by rw [hM1, zw_un _ _ (by omega)]; exact hrw
                have hnu : M1 (z + 6) = some (.inl (G.2.1 0, 120, .inl Y.nu)) := by rw [hM1, zw_un _ _ (by omega)]; exact hnu
                have hfr : M1 (z + 7) = some (.inl (G.2.1 0, 120, .inl Y.fr)) := by rw [hM1, zw_un _ _ (by omega)]; exact hfr
                have hto : M1 (z + 8) = some (.inl (G.2.1 0, 120, .inl Y.to)) := by rw [hM1, zw_un _ _ (by omega)]; exact hto
                have hsi : M1 (z + 9) = some (.inl (G.2.1 0, 120, .inl Y.si)) := by rw [hM1, zw_un _ _ (by omega)]; exact hsi
                have hcl : M1 (z + 10) = some (.inl (G.2.1 1, 120, .inr (.inl Y.cl))) := by rw [hM1, zw_un _ _ (by omega)]; exact hcl
                have hins : M1 (z + 11) = some (.inl (G.2.1 0, 57600, .inl Y.ins)) := by rw [hM1, zw_un _ _ (by omega)]; exact hins
                have hpart : M1 (z + 12) = some (.inl (G.2.1 0, 480, .inl Y.part)) := by rw [hM1, zw_un _ _ (by omega)]; exact hpart
                have hx0 : M1 x = some (.inr (2, zoR 0 n mb z st.fl.length st.se st.lo st.go st.pa pt)) := by rw [hM1]; exact zw_us _ _ _
                refine lv_aload_n hx hb dR_make_81 rfl (lv_at hl 0 rfl) ?_
                refine va_get (D := G.1) (ci := 2) (v := .int (nI 0)) (C := RR) (T := TR) (N := 22) hx hb hz iR hown hK (hH.one hx0) 0 rfl rfl 0 (by decide) (hz _ zm_388) (fun _ h9 => h9) rfl dR_make_82 ?_
                refine zc_le0 (tgt := 90) hx hb dR_make_85 (by decide) (by decide) (fun b69 => ?_) (fun b69 => ?_)
                · refine lv_aload_n hx hb dR_make_90 rfl (lv_at hl 0 rfl) ?_
                  refine va_get (D := G.1) (ci := 2) (v := .ref (z + 2)) (C := RR) (T := TR) (N := 22) hx hb hz iR hown hK (hH.one hx0) 0 rfl rfl 5 (by decide) (hz _ zm_393) (fun _ h9 => h9) rfl dR_make_91 ?_
                  refine lv_bipush (v := nI 61) hx hb dR_make_94 (by decide) ?_
                  refine lv_iload_n hx hb dR_make_96 rfl (lv_at hl 1 rfl) ?_
                  refine lv_imul hx hb dR_make_97 ?_
                  refine zw_ti (pk_mul _ _) ?_
                  refine lv_aload_n hx hb dR_make_98 rfl (lv_at hl 0 rfl) ?_
                  refine va_get (D := G.1) (ci := 2) (v := .ref (z + 1)) (C := RR) (T := TR) (N := 22) hx hb hz iR hown hK (hH.one hx0) 0 rfl rfl 4 (by decide) (hz _ zm_392) (fun _ h9 => h9) rfl dR_make_99 ?_
                  refine lv_iload_n hx hb dR_make_102 rfl (lv_at hl 1 rfl) ?_
                  refine zw_iald hx hb hK hH 0 hmd rfl (j) rfl (by omega) (by decide) dR_make_103 ?_
                  refine lv_iadd hx hb dR_make_104 ?_
                  refine zw_ti (nI_add _ _) ?_
                  refine lv_iload_n hx hb dR_make_105 rfl (lv_at hl 2 rfl) ?_
                  refine zw_iast hx hb hK hH hS 0 hwt rfl (61 * j + (st.wt j).length) rfl (by omega) (by decide) dR_make_106 (fun H2 L2 hH hz1 hS => ?_)
                  have hsz : H2.size = sz := hz1.trans hsz
                  obtain ⟨M2, hM2⟩ : ∃ Mq, Mq = zw_u M1 (z + 2) (.inl (G.2.1 0, 488, .inl (upd (fun a9 => nI ((st.wt (a9 / 61)).getD (a9 % 61) 0)) (61 * j + (st.wt j).length) (nI wg)))) := ⟨_, rfl⟩
                  have hH : zw_H G.1 zCl B M2 H2 := by rw [hM2]; exact hH
                  have hx0 : M2 x = some (.inr (2, zoR 0 n mb z st.fl.length st.se st.lo st.go st.pa pt)) := by rw [hM2, zw_un _ _ (by omega)]; exact hx0
                  have hdn : M2 z = some (.inl (G.2.1 2, 8, .inl (fun a9 => nI (st.dn a9).toNat))) := by rw [hM2, zw_un _ _ (by omega)]; exact hdn
                  have hmd : M2 (z + 1) = some (.inl (G.2.1 0, 8, .inl (fun a9 => nI ((st.wt a9).length)))) := by rw [hM2, zw_un _ _ (by omega)]; exact hmd
                  have hhas : M2 (z + 3) = some (.inl (G.2.1 0, 3840, .inl (fun a9 => nI ((st.lg (a9 / 480)).getD (a9 % 480) 0)))) := by rw [hM2, zw_un _ _ (by omega)]; exact hhas
                  have hmn : M2 (z + 4) = some (.inl (G.2.1 0, 8, .inl (fun a9 => nI ((st.lg a9).length)))) := by rw [hM2, zw_un _ _ (by omega)]; exact hmn
                  have hrw : M2 (z + 5) = some (.inl (G.2.1 0, 120, .inl (fun a9 => nI (Y.rw a9)))) := by rw [hM2, zw_un _ _ (by omega)]; exact hrw
                  have hnu : M2 (z + 6) = some (.inl (G.2.1 0, 120, .inl Y.nu)) := by rw [hM2, zw_un _ _ (by omega)]; exact hnu
                  have hfr : M2 (z + 7) = some (.inl (G.2.1 0, 120, .inl Y.fr)) := by rw [hM2, zw_un _ _ (by omega)]; exact hfr
                  have hto : M2 (z + 8) = some (.inl (G.2.1 0, 120, .inl Y.to)) := by rw [hM2, zw_un _ _ (by omega)]; exact hto
                  have hsi : M2 (z + 9) = some (.inl (G.2.1 0, 120, .inl Y.si)) := by rw [hM2, zw_un _ _ (by omega)]; exact hsi
                  have hcl : M2 (z + 10) = some (.inl (G.2.1 1, 120, .inr (.inl Y.cl))) := by rw [hM2, zw_un _ _ (by omega)]; exact hcl
                  have hins : M2 (z + 11) = some (.inl (G.2.1 0, 57600, .inl Y.ins)) := by rw [hM2, zw_un _ _ (by omega)]; exact hins
                  have hpart : M2 (z + 12) = some (.inl (G.2.1 0, 480, .inl Y.part)) := by rw [hM2, zw_un _ _ (by omega)]; exact hpart
                  have hwt : M2 (z + 2) = some (.inl (G.2.1 0, 488, .inl (upd (fun a9 => nI ((st.wt (a9 / 61)).getD (a9 % 61) 0)) (61 * j + (st.wt j).length) (nI wg)))) := by rw [hM2]; exact zw_us _ _ _
                  refine lv_aload_n hx hb dR_make_107 rfl (lv_at hl 0 rfl) ?_
                  refine va_get (D := G.1) (ci := 2) (v := .ref (z + 1)) (C := RR) (T := TR) (N := 22) hx hb hz iR hown hK (hH.one hx0) 0 rfl rfl 4 (by decide) (hz _ zm_392) (fun _ h9 => h9) rfl dR_make_108 ?_
                  refine lv_iload_n hx hb dR_make_111 rfl (lv_at hl 1 rfl) ?_
                  refine lv_dup2_11 hx hb dR_make_112 rfl rfl ?_
                  refine zw_iald hx hb hK hH 0 hmd rfl (j) rfl (by omega) (by decide) dR_make_113 ?_
                  refine lv_iconst (v := nI 1) hx hb dR_make_114 (by decide) ?_
                  refine lv_iadd hx hb dR_make_115 ?_
                  refine zw_ti (nI_add _ _) ?_
                  refine zw_iast hx hb hK hH hS 0 hmd rfl (j) rfl (by omega) (by decide) dR_make_116 (fun H3 L3 hH hz1 hS => ?_)
                  have hsz : H3.size = sz := hz1.trans hsz
                  obtain ⟨M3, hM3⟩ : ∃ Mq, Mq = zw_u M2 (z + 1) (.inl (G.2.1 0, 8, .inl (upd (fun a9 => nI ((st.wt a9).length)) j (nI (((st.wt j).length) + 1))))) := ⟨_, rfl⟩
                  have hH : zw_H G.1 zCl B M3 H3 := by rw [hM3]; exact hH
                  have hx0 : M3 x = some (.inr (2, zoR 0 n mb z st.fl.length st.se st.lo st.go st.pa pt)) := by rw [hM3, zw_un _ _ (by omega)]; exact hx0
                  have hdn : M3 z = some (.inl (G.2.1 2, 8, .inl (fun a9 => nI (st.dn a9).toNat))) := by rw [hM3, zw_un _ _ (by omega)]; exact hdn
                  have hwt : M3 (z + 2) = some (.inl (G.2.1 0, 488, .inl (upd (fun a9 => nI ((st.wt (a9 / 61)).getD (a9 % 61) 0)) (61 * j + (st.wt j).length) (nI wg)))) := by rw [hM3, zw_un _ _ (by omega)]; exact hwt
                  have hhas : M3 (z + 3) = some (.inl (G.2.1 0, 3840, .inl (fun a9 => nI ((st.lg (a9 / 480)).getD (a9 % 480) 0)))) := by rw [hM3, zw_un _ _ (by omega)]; exact hhas
                  have hmn : M3 (z + 4) = some (.inl (G.2.1 0, 8, .inl (fun a9 => nI ((st.lg a9).length)))) := by rw [hM3, zw_un _ _ (by omega)]; exact hmn
                  have hrw : M3 (z + 5) = some (.inl (G.2.1 0, 120, .inl (fun a9 => nI (Y.rw a9)))) := by rw [hM3, zw_un _ _ (by omega)]; exact hrw
                  have hnu : M3 (z + 6) = some (.inl (G.2.1 0, 120, .inl Y.nu)) := by rw [hM3, zw_un _ _ (by omega)]; exact hnu
                  have hfr : M3 (z + 7) = some (.inl (G.2.1 0, 120, .inl Y.fr)) := by rw [hM3, zw_un _ _ (by omega)]; exact hfr
                  have hto : M3 (z + 8) = some (.inl (G.2.1 0, 120, .inl Y.to)) := by rw [hM3, zw_un _ _ (by omega)]; exact hto
                  have hsi : M3 (z + 9) = some (.inl (G.2.1 0, 120, .inl Y.si)) := by rw [hM3, zw_un _ _ (by omega)]; exact hsi
                  have hcl : M3 (z + 10) = some (.inl (G.2.1 1, 120, .inr (.inl Y.cl))) := by rw [hM3, zw_un _ _ (by omega)]; exact hcl
                  have hins : M3 (z + 11) = some (.inl (G.2.1 0, 57600, .inl Y.ins)) := by rw [hM3, zw_un _ _ (by omega)]; exact hins
                  have hpart : M3 (z + 12) = some (.inl (G.2.1 0, 480, .inl Y.part)) := by rw [hM3, zw_un _ _ (by omega)]; exact hpart
                  have hmd : M3 (z + 1) = some (.inl (G.2.1 0, 8, .inl (upd (fun a9 => nI ((st.wt a9).length)) j (nI (((st.wt j).length) + 1))))) := by rw [hM3]; exact zw_us _ _ _
                  refine lv_aload_n hx hb dR_make_117 rfl (lv_at hl 0 rfl) ?_
                  refine lv_iload_n hx hb dR_make_118 rfl (lv_at hl 1 rfl) ?_
                  refine lv_iload_n hx hb dR_make_119 rfl (lv_at hl 1 rfl) ?_
                  refine lv_bipush (v := nI 8) hx hb dR_make_120 (by decide) ?_
                  refine lv_aload_n hx hb dR_make_122 rfl (lv_at hl 0 rfl) ?_
                  refine va_get (D := G.1) (ci := 2) (v := .ref (z + 1)) (C := RR) (T := TR) (N := 22) hx hb hz iR hown hK (hH.one hx0) 0 rfl rfl 4 (by decide) (hz _ zm_392) (fun _ h9 => h9) rfl dR_make_123 ?_
                  refine lv_iload_n hx hb dR_make_126 rfl (lv_at hl 1 rfl) ?_
                  refine zw_iald hx hb hK hH 0 hmd rfl (j) rfl (by omega) (by decide) dR_make_127 ?_
                  refine zw_ti (show upd (fun a9 => nI ((st.wt a9).length)) j (nI ((st.wt j).length + 1)) j = nI ((st.wt j).length + 1) from if_pos rfl) ?_
                  refine lv_imul hx hb dR_make_128 ?_
                  refine zw_ti (pk_mul _ _) ?_
                  refine lv_iadd hx hb dR_make_129 ?_
                  refine zw_ti (nI_add _ _) ?_
                  have hfz : zrf x z M M3 := fun q h1 h2 => by rw [hM3, zw_un _ _ (by omega), hM2, zw_un _ _ (by omega), hM1, zw_un _ _ (by omega)]
                  rw [zwt_u (by omega)] at hwt
                  rw [zmd_u st j wg] at hmd
                  have hR1 : zRR G M3 x z n mb (zSt.mk st.dn st.lg (fun i => if i = j then st.wt j ++ [wg] else st.wt i) st.fl st.se st.lo st.go st.pa) 0 pt Y := ⟨hxz, hx0, hdn, hmd, hwt, hhas, hmn, hrw, hnu, hfr, hto, hsi, hcl, hins, hpart, hR.rwb, hR.rwi, hR.msg⟩
                  refine zr_Vv (As := [.int (nI j), .int (nI (j + (8 * ((st.wt j).length + 1))))]) (rest := []) (q := (RR, TR, 22)) (mc := 0) (ms := 0) ⟨hx, hb, hml, hown, hz⟩ (kR_enter l G B M3 _ x z n mb (zSt.mk st.dn st.lg (fun i => if i = j then st.wt j ++ [wg] else st.wt i) st.fl st.se st.lo st.go st.pa) 0 pt Y hn hR1 j (j + 8 * ((st.wt j).length + 1)) hj (show (st.lg j).length < 480 by omega)) (zt_V zm_467 zm_469 zs_16 zm_3 zm_470) rfl rfl rfl (show _ ∧ _ ∧ _ ∧ _ = some 2 from by decide +kernel) ⟨Nat.le_of_ble_eq_true rfl, Nat.le_of_ble_eq_true rfl⟩ zE_blind (zE_at hE hS) hH hK hx0 rfl rfl hS hl.1 rfl (Nat.le_of_ble_eq_true rfl) dR_make_130 ⟨Nat.le_of_ble_eq_true rfl, Nat.le_of_ble_eq_true rfl⟩ (fun M4 sz4 H4 L4 hp hH hz1 hz2 hS => ?_)
                  obtain ⟨hR2, hfr2, hz3⟩ := hp
                  have hsz : H4.size = sz := hz1.trans (hz3.trans hsz)
                  have hx0 := hR2.obj
                  have hmd := hR2.md
                  have hxz := hR2.xz
                  refine lv_aload_n hx hb dR_make_133 rfl (lv_at hl 0 rfl) ?_
                  refine va_get (D := G.1) (ci := 2) (v := .ref (z + 1)) (C := RR) (T := TR) (N := 22) hx hb hz iR hown hK (hH.one hx0) 0 rfl rfl 4 (by decide) (hz _ zm_392) (fun _ h9 => h9) rfl dR_make_134 ?_
                  refine lv_iload_n hx hb dR_make_137 rfl (lv_at hl 1 rfl) ?_
                  refine zw_iald hx hb hK hH 0 hmd rfl (j) rfl (by omega) (by decide) dR_make_138 ?_
                  refine zw_ti (show nI ((if j = j then st.wt j ++ [wg] else st.wt j).length) = nI ((st.wt j).length + 1) from by rw [if_pos rfl, List.length_append]; rfl) ?_
                  exact W.iret (v := (nI ((st.wt j).length + 1))) hx hb hr (fun t ht hW => ⟨⟨(nI ((st.wt j).length + 1)), (M4, sz), rfl, ⟨rfl, ⟨pt, Y, hR2⟩, hfz.tr hfr2, rfl⟩, by rw [ht]; exact hH, by rw [ht]; exact hsz⟩, hS.F ht⟩) hS.2.2 dR_make_139
                · exact absurd b69 (by decide)
              · exact absurd c5 (by omega)
      · exact absurd c3 (by omega)
  · exact absurd b66 (by decide)

set_option maxHeartbeats 4000000 in
set_option maxRecDepth 100000 in
theorem kR_tick1 (l : Launch) (G : zG) (B : Nat) (M : zw_M) (sz : Nat) (x z n mb : Nat) (st : zSt) (th pt : Nat) (Y : zRX) (hn : n ≤ 8) (hR : zRR G M x z n mb st th pt Y) (a : Int32) (ha : a < 0 ∨ nI n ≤ a) : Met l yR_tick (Cond.code yR_tick bR_tick 6 (some .int) :: zT) { frames := 1, cells := 0, slots := 0, locals := 24 } (zq G B M sz [.ref x, .int a]) (va_Qi (fun (r : Int32) (u : zw_M × Nat) => r = nI 0 ∧ zRO G x z n mb sz M st 1 u) (zr_o G.1 zCl B) (zw_A B)) (0) (0) (zw_A B) := by
  refine Met.ofW (cc := bR_tick) (maxL := 6) (ret := (some .int)) (by decide) rfl ?_
  intro p e s m args below meth c s₁ B0 hml hv
  obtain ⟨rfl, hE, hH, hsz⟩ := hv
  have hx := B0.exec
  have hb := B0.bytes
  have hr := B0.returns
  have hlocks := B0.notSynchronized
  have hz : ∀ w ∈ zT, w.before _ s = true := fun w h => atoms_spec (ws := Cond.code yR_tick bR_tick 6 (some .int) :: zT) B0.pre w (List.mem_cons_of_mem _ h)
  have hown : s.vm.findClass RR = some m.cls := findClass_of_methodNamed B0.named
  have hK := hE.1
  have hl := lv_entry ([.ref x, .int a]) (n := 6) (Nat.le_of_ble_eq_true rfl)
  rw [lg_entry_eq]
  generalize (lg_sl ([.ref x, .int a]) ++ List.replicate (6 - (lg_sl ([.ref x, .int a])).length) Slot.unset).toArray = ls at hl ⊢
  have hl : lv_has ls 6 [(0, .ref x), (1, .int a)] := hl
  have hS : va_S (zw_A B) s.heap s.heap [] := va_S.rf
  have hin : meth.name = "tick" := (name_of_methodNamed B0.named B0.method).1
  have hx0 := hR.obj
  have hxz := hR.xz
  refine lv_aload_n hx hb dR_tick_0 rfl (lv_at hl 0 rfl) ?_
  refine lv_aload_n hx hb dR_tick_1 rfl (lv_at hl 0 rfl) ?_
  refine lv_iload_n hx hb dR_tick_2 rfl (lv_at hl 1 rfl) ?_
  refine zr_V (As := [.int a]) (rest := [.ref x]) (q := (RR, TR, 22)) ⟨hx, hb, hml, hown, hz⟩ (kR_isReplica_out l G B M x z n mb st th pt Y hn hR a ha) (zt_V zm_463 zm_465 zs_15 zm_3 zm_466) rfl rfl rfl (show _ ∧ _ ∧ _ ∧ _ = some 1 from by decide +kernel) ⟨Nat.le_of_ble_eq_true rfl, Nat.le_of_ble_eq_true rfl⟩ zE_blind (zE_at hE hS) hH hK hx0 rfl rfl hl.1 rfl (Nat.le_of_ble_eq_true rfl) dR_tick_3 ⟨Nat.le_of_ble_eq_true rfl, Nat.le_of_ble_eq_true rfl⟩ ?_
  refine zc_ne0 (tgt := 13) hx hb dR_tick_6 (by decide) (by decide) (fun b70 => ?_) (fun b70 => ?_)
  · exact absurd b70 (by decide)
  · refine lv_iconst (v := nI 1) hx hb dR_tick_9 (by decide) ?_
    refine lv_goto (tgt := 39) hx hb dR_tick_10 (by decide) ?_
    refine zw_put (D := G.1) (ci := 2) (v := .int (nI 1)) (ty := .int) (C := RR) (T := TR) (N := 22) hx hb hz iR tR tR_ok nR hown hK hH hS hx0 rfl 0 (by decide) (hz _ zm_388) (fun _ h9 => h9) rfl (by decide +kernel) rfl rfl (Nat.le_of_ble_eq_true rfl) dR_tick_39 (fun H1 L1 hH hz1 hS => ?_)
    have hsz : H1.size = sz := hz1.trans hsz
    obtain ⟨M1, hM1⟩ : ∃ Mq, Mq = zw_u M x (.inr (2, zoR 1 n mb z st.fl.length st.se st.lo st.go st.pa pt)) := ⟨_, rfl⟩
    have hH : zw_H G.1 zCl B M1 H1 := by rw [hM1]; exact hH
    have hx0 : M1 x = some (.inr (2, zoR 1 n mb z st.fl.length st.se st.lo st.go st.pa pt)) := by rw [hM1]; exact zw_us _ _ _
    refine lv_aload_n hx hb dR_tick_42 rfl (lv_at hl 0 rfl) ?_
    refine va_get (D := G.1) (ci := 2) (v := .int (nI 1)) (C := RR) (T := TR) (N := 22) hx hb hz iR hown hK (hH.one hx0) 0 rfl rfl 0 (by decide) (hz _ zm_388) (fun _ h9 => h9) rfl dR_tick_43 ?_
    refine zc_le0 (tgt := 51) hx hb dR_tick_46 (by decide) (by decide) (fun b71 => ?_) (fun b71 => ?_)
    · exact absurd b71 (by decide)
    · refine lv_iconst (v := nI 0) hx hb dR_tick_49 (by decide) ?_
      have hkx : ∀ a : Nat, a ≠ x → M1 a = M a := fun a h1 => by rw [hM1, zw_un _ _ h1]
      exact W.iret (v := (nI 0)) hx hb hr (fun t ht hW => ⟨⟨(nI 0), (M1, sz), rfl, ⟨rfl, ⟨pt, Y, hR.cnt (st' := st) rfl rfl rfl rfl hx0 (fun a e h1 h2 => (hkx a h1).trans h2)⟩, fun q h1 h2 => hkx q h1, rfl⟩, by rw [ht]; exact hH, by rw [ht]; exact hsz⟩, hS.F ht⟩) hS.2.2 dR_tick_50

set_option maxHeartbeats 4000000 in
set_option maxRecDepth 100000 in
theorem kR_tick2 (l : Launch) (G : zG) (B : Nat) (M : zw_M) (sz : Nat) (x z n mb : Nat) (st : zSt) (th pt : Nat) (Y : zRX) (hn : n ≤ 8) (hR : zRR G M x z n mb st th pt Y) (j : Nat) (hj : j < n) (hd : st.dn j = true) : Met l yR_tick (Cond.code yR_tick bR_tick 6 (some .int) :: zT) { frames := 1, cells := 0, slots := 0, locals := 24 } (zq G B M sz [.ref x, .int (nI j)]) (va_Qi (fun (r : Int32) (u : zw_M × Nat) => r = nI 0 ∧ zRO G x z n mb sz M st 2 u) (zr_o G.1 zCl B) (zw_A B)) (0) (0) (zw_A B) := by
  refine Met.ofW (cc := bR_tick) (maxL := 6) (ret := (some .int)) (by decide) rfl ?_
  intro p e s m args below meth c s₁ B0 hml hv
  obtain ⟨rfl, hE, hH, hsz⟩ := hv
  have hx := B0.exec
  have hb := B0.bytes
  have hr := B0.returns
  have hlocks := B0.notSynchronized
  have hz : ∀ w ∈ zT, w.before _ s = true := fun w h => atoms_spec (ws := Cond.code yR_tick bR_tick 6 (some .int) :: zT) B0.pre w (List.mem_cons_of_mem _ h)
  have hown : s.vm.findClass RR = some m.cls := findClass_of_methodNamed B0.named
  have hK := hE.1
  have hl := lv_entry ([.ref x, .int (nI j)]) (n := 6) (Nat.le_of_ble_eq_true rfl)
  rw [lg_entry_eq]
  generalize (lg_sl ([.ref x, .int (nI j)]) ++ List.replicate (6 - (lg_sl ([.ref x, .int (nI j)])).length) Slot.unset).toArray = ls at hl ⊢
  have hl : lv_has ls 6 [(0, .ref x), (1, .int (nI j))] := hl
  have hS : va_S (zw_A B) s.heap s.heap [] := va_S.rf
  have hin : meth.name = "tick" := (name_of_methodNamed B0.named B0.method).1
  have hb1 := zbool (st.dn j)
  have hx0 := hR.obj
  have hdn := hR.dn
  have hxz := hR.xz
  refine lv_aload_n hx hb dR_tick_0 rfl (lv_at hl 0 rfl) ?_
  refine lv_aload_n hx hb dR_tick_1 rfl (lv_at hl 0 rfl) ?_
  refine lv_iload_n hx hb dR_tick_2 rfl (lv_at hl 1 rfl) ?_
  refine zr_V (As := [.int (nI j)]) (rest := [.ref x]) (q := (RR, TR, 22)) ⟨hx, hb, hml, hown, hz⟩ (kR_isReplica_in l G B M x z n mb st th pt Y hn hR j hj) (zt_V zm_463 zm_465 zs_15 zm_3 zm_466) rfl rfl rfl (show _ ∧ _ ∧ _ ∧ _ = some 1 from by decide +kernel) ⟨Nat.le_of_ble_eq_true rfl, Nat.le_of_ble_eq_true rfl⟩ zE_blind (zE_at hE hS) hH hK hx0 rfl rfl hl.1 rfl (Nat.le_of_ble_eq_true rfl) dR_tick_3 ⟨Nat.le_of_ble_eq_true rfl, Nat.le_of_ble_eq_true rfl⟩ ?_
  refine zc_ne0 (tgt := 13) hx hb dR_tick_6 (by decide) (by decide) (fun b72 => ?_) (fun b72 => ?_)
  · refine lv_aload_n hx hb dR_tick_13 rfl (lv_at hl 0 rfl) ?_
    refine va_get (D := G.1) (ci := 2) (v := .ref z) (C := RR) (T := TR) (N := 22) hx hb hz iR hown hK (hH.one hx0) 0 rfl rfl 3 (by decide) (hz _ zm_391) (fun _ h9 => h9) rfl dR_tick_14 ?_
    refine lv_aload_n hx hb dR_tick_17 rfl (lv_at hl 0 rfl) ?_
    refine lv_iload_n hx hb dR_tick_18 rfl (lv_at hl 1 rfl) ?_
    refine zr_V (As := [.int (nI j)]) (rest := [.ref z, .ref x]) (q := (RR, TR, 22)) ⟨hx, hb, hml, hown, hz⟩ (kR_isReplica_in l G B M x z n mb st th pt Y hn hR j hj) (zt_V zm_463 zm_465 zs_15 zm_3 zm_466) rfl rfl rfl (show _ ∧ _ ∧ _ ∧ _ = some 1 from by decide +kernel) ⟨Nat.le_of_ble_eq_true rfl, Nat.le_of_ble_eq_true rfl⟩ zE_blind (zE_at hE hS) hH hK hx0 rfl rfl hl.1 rfl (Nat.le_of_ble_eq_true rfl) dR_tick_19 ⟨Nat.le_of_ble_eq_true rfl, Nat.le_of_ble_eq_true rfl⟩ ?_
    refine zc_eq0 (tgt := 29) hx hb dR_tick_22 (by decide) (by decide) (fun b73 => ?_) (fun b73 => ?_)
    · exact absurd b73 (by decide)
    · refine lv_iload_n hx hb dR_tick_25 rfl (lv_at hl 1 rfl) ?_
      refine lv_goto (tgt := 30) hx hb dR_tick_26 (by decide) ?_
      refine zw_zald hx hb hK hH 2 hdn rfl (j) rfl (by omega) (by decide) dR_tick_30 ?_
      refine zc_eq0 (tgt := 38) hx hb dR_tick_31 (by decide) (by omega) (fun c2 => ?_) (fun c2 => ?_)
      · exact absurd c2 (by rw [hd]; decide)
      · refine lv_iconst (v := nI 2) hx hb dR_tick_34 (by decide) ?_
        refine lv_goto (tgt := 39) hx hb dR_tick_35 (by decide) ?_
        refine zw_put (D := G.1) (ci := 2) (v := .int (nI 2)) (ty := .int) (C := RR) (T := TR) (N := 22) hx hb hz iR tR tR_ok nR hown hK hH hS hx0 rfl 0 (by decide) (hz _ zm_388) (fun _ h9 => h9) rfl (by decide +kernel) rfl rfl (Nat.le_of_ble_eq_true rfl) dR_tick_39 (fun H1 L1 hH hz1 hS => ?_)
        have hsz : H1.size = sz := hz1.trans hsz
        obtain ⟨M1, hM1⟩ : ∃ Mq, Mq = zw_u M x (.inr (2, zoR 2 n mb z st.fl.length st.se st.lo st.go st.pa pt)) := ⟨_, rfl⟩
        have hH : zw_H G.1 zCl B M1 H1 := by rw [hM1]; exact hH
        have hdn : M1 z = some (.inl (G.2.1 2, 8, .inl (fun a9 => nI (st.dn a9).toNat))) := by rw [hM1, zw_un _ _ (by omega)]; exact hdn
        have hx0 : M1 x = some (.inr (2, zoR 2 n mb z st.fl.length st.se st.lo st.go st.pa pt)) := by rw [hM1]; exact zw_us _ _ _
        refine lv_aload_n hx hb dR_tick_42 rfl (lv_at hl 0 rfl) ?_
        refine va_get (D := G.1) (ci := 2) (v := .int (nI 2)) (C := RR) (T := TR) (N := 22) hx hb hz iR hown hK (hH.one hx0) 0 rfl rfl 0 (by decide) (hz _ zm_388) (fun _ h9 => h9) rfl dR_tick_43 ?_
        refine zc_le0 (tgt := 51) hx hb dR_tick_46 (by decide) (by decide) (fun b74 => ?_) (fun b74 => ?_)
        · exact absurd b74 (by decide)
        · refine lv_iconst (v := nI 0) hx hb dR_tick_49 (by decide) ?_
          have hkx : ∀ a : Nat, a ≠ x → M1 a = M a := fun a h1 => by rw [hM1, zw_un _ _ h1]
          exact W.iret (v := (nI 0)) hx hb hr (fun t ht hW => ⟨⟨(nI 0), (M1, sz), rfl, ⟨rfl, ⟨pt, Y, hR.cnt (st' := st) rfl rfl rfl rfl hx0 (fun a e h1 h2 => (hkx a h1).trans h2)⟩, fun q h1 h2 => hkx q h1, rfl⟩, by rw [ht]; exact hH, by rw [ht]; exact hsz⟩, hS.F ht⟩) hS.2.2 dR_tick_50
  · exact absurd b72 (by decide)

theorem zOK.chs {n : Nat} {st : zSt} (h : zOK n st) : ∀ mg ∈ st.fl, mg.chs.length ≤ 480 := by
  intro mg hm
  have h1 := (h.msg hm).2.2
  cases hk : mg.ck with
  | some k => rw [hk] at h1; rw [h1.2.2]; decide
  | none => rw [hk] at h1; exact h1.2.1
set_option maxHeartbeats 4000000 in
set_option maxRecDepth 100000 in
theorem kR_tick (l : Launch) (G : zG) (B : Nat) (M : zw_M) (sz : Nat) (x z n mb : Nat) (st : zSt) (th pt : Nat) (Y : zRX) (hn : n ≤ 8) (hR : zRR G M x z n mb st th pt Y) (hok : zOK n st) (hn1 : 1 ≤ n) (j : Nat) (hj : j < n) (hd : st.dn j = false) : Met l yR_tick (Cond.code yR_tick bR_tick 6 (some .int) :: zT) { frames := 2, cells := 0, slots := 0, locals := 50 } (zq G B M sz [.ref x, .int (nI j)]) (va_Qi (fun (r : Int32) (u : zw_M × Nat) => r = nI (n - 1) ∧ zRO G x z n mb sz M (ztk n j (zck (st.lg j)) st n) 0 u) (zr_o G.1 zCl B) (zw_A B)) (0) (0) (zw_A B) := by
  refine Met.ofW (cc := bR_tick) (maxL := 6) (ret := (some .int)) (by decide) rfl ?_
  intro p e s m args below meth c s₁ B0 hml hv
  obtain ⟨rfl, hE, hH, hsz⟩ := hv
  have hx := B0.exec
  have hb := B0.bytes
  have hr := B0.returns
  have hlocks := B0.notSynchronized
  have hz : ∀ w ∈ zT, w.before _ s = true := fun w h => atoms_spec (ws := Cond.code yR_tick bR_tick 6 (some .int) :: zT) B0.pre w (List.mem_cons_of_mem _ h)
  have hown : s.vm.findClass RR = some m.cls := findClass_of_methodNamed B0.named
  have hK := hE.1
  have hl := lv_entry ([.ref x, .int (nI j)]) (n := 6) (Nat.le_of_ble_eq_true rfl)
  rw [lg_entry_eq]
  generalize (lg_sl ([.ref x, .int (nI j)]) ++ List.replicate (6 - (lg_sl ([.ref x, .int (nI j)])).length) Slot.unset).toArray = ls at hl ⊢
  have hl : lv_has ls 6 [(0, .ref x), (1, .int (nI j))] := hl
  have hS : va_S (zw_A B) s.heap s.heap [] := va_S.rf
  have hin : meth.name = "tick" := (name_of_methodNamed B0.named B0.method).1
  have hb1 := zbool (st.dn j)
  have hx0 := hR.obj
  have hdn := hR.dn
  have hxz := hR.xz
  refine lv_aload_n hx hb dR_tick_0 rfl (lv_at hl 0 rfl) ?_
  refine lv_aload_n hx hb dR_tick_1 rfl (lv_at hl 0 rfl) ?_
  refine lv_iload_n hx hb dR_tick_2 rfl (lv_at hl 1 rfl) ?_
  refine zr_V (As := [.int (nI j)]) (rest := [.ref x]) (q := (RR, TR, 22)) ⟨hx, hb, hml, hown, hz⟩ (kR_isReplica_in l G B M x z n mb st th pt Y hn hR j hj) (zt_V zm_463 zm_465 zs_15 zm_3 zm_466) rfl rfl rfl (show _ ∧ _ ∧ _ ∧ _ = some 1 from by decide +kernel) ⟨Nat.le_of_ble_eq_true rfl, Nat.le_of_ble_eq_true rfl⟩ zE_blind (zE_at hE hS) hH hK hx0 rfl rfl hl.1 rfl (Nat.le_of_ble_eq_true rfl) dR_tick_3 ⟨Nat.le_of_ble_eq_true rfl, Nat.le_of_ble_eq_true rfl⟩ ?_
  refine zc_ne0 (tgt := 13) hx hb dR_tick_6 (by decide) (by decide) (fun b75 => ?_) (fun b75 => ?_)
  · refine lv_aload_n hx hb dR_tick_13 rfl (lv_at hl 0 rfl) ?_
    refine va_get (D := G.1) (ci := 2) (v := .ref z) (C := RR) (T := TR) (N := 22) hx hb hz iR hown hK (hH.one hx0) 0 rfl rfl 3 (by decide) (hz _ zm_391) (fun _ h9 => h9) rfl dR_tick_14 ?_
    refine lv_aload_n hx hb dR_tick_17 rfl (lv_at hl 0 rfl) ?_
    refine lv_iload_n hx hb dR_tick_18 rfl (lv_at hl 1 rfl) ?_
    refine zr_V (As := [.int (nI j)]) (rest := [.ref z, .ref x]) (q := (RR, TR, 22)) ⟨hx, hb, hml, hown, hz⟩ (kR_isReplica_in l G B M x z n mb st th pt Y hn hR j hj) (zt_V zm_463 zm_465 zs_15 zm_3 zm_466) rfl rfl rfl (show _ ∧ _ ∧ _ ∧ _ = some 1 from by decide +kernel) ⟨Nat.le_of_ble_eq_true rfl, Nat.le_of_ble_eq_true rfl⟩ zE_blind (zE_at hE hS) hH hK hx0 rfl rfl hl.1 rfl (Nat.le_of_ble_eq_true rfl) dR_tick_19 ⟨Nat.le_of_ble_eq_true rfl, Nat.le_of_ble_eq_true rfl⟩ ?_
    refine zc_eq0 (tgt := 29) hx hb dR_tick_22 (by decide) (by decide) (fun b76 => ?_) (fun b76 => ?_)
    · exact absurd b76 (by decide)
    · refine lv_iload_n hx hb dR_tick_25 rfl (lv_at hl 1 rfl) ?_
      refine lv_goto (tgt := 30) hx hb dR_tick_26 (by decide) ?_
      refine zw_zald hx hb hK hH 2 hdn rfl (j) rfl (by omega) (by decide) dR_tick_30 ?_
      refine zc_eq0 (tgt := 38) hx hb dR_tick_31 (by decide) (by omega) (fun c2 => ?_) (fun c2 => ?_)
      · refine lv_iconst (v := nI 0) hx hb dR_tick_38 (by decide) ?_
        refine zw_put (D := G.1) (ci := 2) (v := .int (nI 0)) (ty := .int) (C := RR) (T := TR) (N := 22) hx hb hz iR tR tR_ok nR hown hK hH hS hx0 rfl 0 (by decide) (hz _ zm_388) (fun _ h9 => h9) rfl (by decide +kernel) rfl rfl (Nat.le_of_ble_eq_true rfl) dR_tick_39 (fun H1 L1 hH hz1 hS => ?_)
        have hsz : H1.size = sz := hz1.trans hsz
        obtain ⟨M1, hM1⟩ : ∃ Mq, Mq = zw_u M x (.inr (2, zoR 0 n mb z st.fl.length st.se st.lo st.go st.pa pt)) := ⟨_, rfl⟩
        have hH : zw_H G.1 zCl B M1 H1 := by rw [hM1]; exact hH
        have hdn : M1 z = some (.inl (G.2.1 2, 8, .inl (fun a9 => nI (st.dn a9).toNat))) := by rw [hM1, zw_un _ _ (by omega)]; exact hdn
        have hx0 : M1 x = some (.inr (2, zoR 0 n mb z st.fl.length st.se st.lo st.go st.pa pt)) := by rw [hM1]; exact zw_us _ _ _
        refine lv_aload_n hx hb dR_tick_42 rfl (lv_at hl 0 rfl) ?_
        refine va_get (D := G.1) (ci := 2) (v := .int (nI 0)) (C := RR) (T := TR) (N := 22) hx hb hz iR hown hK (hH.one hx0) 0 rfl rfl 0 (by decide) (hz _ zm_388) (fun _ h9 => h9) rfl dR_tick_43 ?_
        refine zc_le0 (tgt := 51) hx hb dR_tick_46 (by decide) (by decide) (fun b77 => ?_) (fun b77 => ?_)
        · refine lv_aload_n hx hb dR_tick_51 rfl (lv_at hl 0 rfl) ?_
          refine lv_iload_n hx hb dR_tick_52 rfl (lv_at hl 1 rfl) ?_
          have hkx : ∀ a : Nat, a ≠ x → M1 a = M a := fun a h1 => by rw [hM1, zw_un _ _ h1]
          have hRn : zRR G M1 x z n mb st 0 pt Y := hR.cnt (st' := st) rfl rfl rfl rfl hx0 (fun a e h1 h2 => (hkx a h1).trans h2)
          refine zr_V (As := [.int (nI j)]) (rest := []) (q := (RR, TR, 22)) ⟨hx, hb, hml, hown, hz⟩ (kR_clockOf l G B M1 x z n mb st 0 pt Y hn hRn hok j hj) (zt_V zm_475 zm_477 zs_17 zm_3 zm_478) rfl rfl rfl (show _ ∧ _ ∧ _ ∧ _ = some 1 from by decide +kernel) ⟨Nat.le_of_ble_eq_true rfl, Nat.le_of_ble_eq_true rfl⟩ zE_blind (zE_at hE hS) hH hK hx0 rfl rfl hl.1 rfl (Nat.le_of_ble_eq_true rfl) dR_tick_53 ⟨Nat.le_of_ble_eq_true rfl, Nat.le_of_ble_eq_true rfl⟩ ?_
          refine lv_lstore_n (lv' := [(2, .long (zck (st.lg j))), (0, .ref x), (1, .int (nI j))]) hx hb dR_tick_56 rfl hl (by decide) rfl (fun ls hl => ?_)
          refine lv_iconst (v := nI 0) hx hb dR_tick_57 (by decide) ?_
          refine lv_istore (lv' := [(4, .int (nI 0)), (2, .long (zck (st.lg j))), (0, .ref x), (1, .int (nI j))]) hx hb dR_tick_58 hl (by decide) rfl (fun ls hl => ?_)
          refine zl_upH (Wg := fun ls H locs => W p l e _ s m _ below meth c H locs 0 0 _ (F0 m 60 ls [])) (fun i ls H locs => lv_has ls 6 [(0, .ref x), (1, .int (nI j)), (2, .long (zck (st.lg j))), (4, .int (nI i))] ∧ ∃ Mq : zw_M, zw_H G.1 zCl B Mq H ∧ va_S (zw_A B) s.heap H locs ∧ (∃ Y1 : zRX, zRR G Mq x z n mb (ztk n j (zck (st.lg j)) st i) 0 pt Y1) ∧ zrf x z M Mq ∧ H.size = sz) n ?_ (i := 0) (by omega) ⟨lv_sub hl [2, 3, 1, 0] rfl, M1, hH, hS, ⟨⟨Y, hRn⟩, fun q h1 h2 => hkx q h1, hsz⟩⟩
          intro i hi ls Hi Li ⟨hl, Mi, hH, hS, hI⟩ ih
          have hl : lv_has ls 6 [(0, .ref x), (1, .int (nI j)), (2, .long (zck (st.lg j))), (4, .int (nI i))] := hl
          obtain ⟨⟨Y1, hR1⟩, hfr, hsz⟩ := hI
          have hoki := zOK.tk (zck_ne hok hj) hok hj i hi
          have hx0 := hR1.obj
          have hxz := hR1.xz
          refine lv_iload hx hb dR_tick_60 (lv_at hl 3 rfl) ?_
          refine lv_aload_n hx hb dR_tick_62 rfl (lv_at hl 0 rfl) ?_
          refine va_get (D := G.1) (ci := 2) (v := .int (nI n)) (C := RR) (T := TR) (N := 22) hx hb hz iR hown hK (hH.one hx0) 0 rfl rfl 1 (by decide) (hz _ zm_389) (fun _ h9 => h9) rfl dR_tick_63 ?_
          refine zc_ge (tgt := 96) hx hb dR_tick_66 (by decide) (by omega) (by omega) (fun b1 => ?_) (fun b1 => ?_)
          · have e1 : n = i := by omega
            subst e1
            refine lv_aload_n hx hb dR_tick_96 rfl (lv_at hl 0 rfl) ?_
            refine va_get (D := G.1) (ci := 2) (v := .int (nI n)) (C := RR) (T := TR) (N := 22) hx hb hz iR hown hK (hH.one hx0) 0 rfl rfl 1 (by decide) (hz _ zm_389) (fun _ h9 => h9) rfl dR_tick_97 ?_
            refine lv_iconst (v := nI 1) hx hb dR_tick_100 (by decide) ?_
            refine lv_isub hx hb dR_tick_101 ?_
            refine zw_ti (pk_sub (by omega)) ?_
            exact W.iret (v := (nI (n - 1))) hx hb hr (fun t ht hW => ⟨⟨(nI (n - 1)), (Mi, sz), rfl, ⟨rfl, ⟨pt, Y1, hR1⟩, hfr, rfl⟩, by rw [ht]; exact hH, by rw [ht]; exact hsz⟩, hS.F ht⟩) hS.2.2 dR_tick_102
          · refine lv_iload hx hb dR_tick_69 (lv_at hl 3 rfl) ?_
            refine lv_iload_n hx hb dR_tick_71 rfl (lv_at hl 1 rfl) ?_
            refine zc_ne (tgt := 79) hx hb dR_tick_72 (by decide) (by omega) (by omega) (fun b2 => ?_) (fun b2 => ?_)
            · refine lv_aload_n hx hb dR_tick_79 rfl (lv_at hl 0 rfl) ?_
              refine lv_iload_n hx hb dR_tick_80 rfl (lv_at hl 1 rfl) ?_
              refine lv_iload hx hb dR_tick_81 (lv_at hl 3 rfl) ?_
              refine lv_iconst (v := (-1)) hx hb dR_tick_83 (by decide) ?_
              refine lv_lload_n hx hb dR_tick_84 rfl (lv_at hl 2 rfl) ?_
              refine zr_Vi (As := [.int (nI j), .int (nI i), .int (-1), .long (zck (st.lg j))]) (rest := []) (q := (RR, TR, 22)) (mc := 0) (ms := 0) ⟨hx, hb, hml, hown, hz⟩ (kR_send l G B Mi _ x z n mb (ztk n j (zck (st.lg j)) st i) 0 pt Y1 hn hR1 j i (3 + n) (some (zck (st.lg j))) [] (zck (st.lg j)) (zOK.chs hoki) (fun k e => Option.some.inj e) (fun k h => absurd h (Nat.not_lt_zero k)) (by decide) hoki.fl (Or.inr rfl)) (zt_V zm_483 zm_485 zs_19 zm_3 zm_486) rfl rfl rfl (show _ ∧ _ ∧ _ ∧ _ = some 4 from by decide +kernel) ⟨Nat.le_of_ble_eq_true rfl, Nat.le_of_ble_eq_true rfl⟩ zE_blind (zE_at hE hS) hH hK hx0 rfl rfl hS hl.1 rfl (Nat.le_of_ble_eq_true rfl) dR_tick_85 ⟨Nat.le_of_ble_eq_true rfl, Nat.le_of_ble_eq_true rfl⟩ (fun r2 M2 sz2 H2 L2 hp hH hz1 hz2 hS => ?_)
              obtain ⟨rfl, ⟨Y2, hR2⟩, hfr2, hz3⟩ := hp
              have hsz : H2.size = sz := hz1.trans (hz3.trans hsz)
              refine lv_istore (lv' := [(5, .int (nI ((ztk n j (zck (st.lg j)) st i).se))), (0, .ref x), (1, .int (nI j)), (2, .long (zck (st.lg j))), (4, .int (nI i))]) hx hb dR_tick_88 hl (by decide) rfl (fun ls hl => ?_)
              refine lv_iinc (v := (nI (i + 1))) (lv' := [(4, .int (nI (i + 1))), (5, .int (nI ((ztk n j (zck (st.lg j)) st i).se))), (0, .ref x), (1, .int (nI j)), (2, .long (zck (st.lg j)))]) hx hb dR_tick_90 hl (k := 4) rfl (nI_add _ _) (by decide) rfl (fun ls hl => ?_)
              refine lv_goto (tgt := 60) hx hb dR_tick_93 (by decide) ?_
              exact ih b1 ls H2 _ ⟨lv_sub hl [2, 3, 4, 0] rfl, M2, hH, hS, ⟨⟨Y2, by unfold ztk; rw [if_neg b2]; exact hR2⟩, hfr.tr hfr2, hsz⟩⟩
            · refine lv_iconst (v := (-1)) hx hb dR_tick_75 (by decide) ?_
              refine lv_goto (tgt := 88) hx hb dR_tick_76 (by decide) ?_
              refine lv_istore (lv' := [(5, .int (-1)), (0, .ref x), (1, .int (nI j)), (2, .long (zck (st.lg j))), (4, .int (nI i))]) hx hb dR_tick_88 hl (by decide) rfl (fun ls hl => ?_)
              refine lv_iinc (v := (nI (i + 1))) (lv' := [(4, .int (nI (i + 1))), (5, .int (-1)), (0, .ref x), (1, .int (nI j)), (2, .long (zck (st.lg j)))]) hx hb dR_tick_90 hl (k := 4) rfl (nI_add _ _) (by decide) rfl (fun ls hl => ?_)
              refine lv_goto (tgt := 60) hx hb dR_tick_93 (by decide) ?_
              exact ih b1 ls Hi _ ⟨lv_sub hl [2, 3, 4, 0] rfl, Mi, hH, hS, ⟨⟨Y1, by unfold ztk; rw [if_pos b2]; exact hR1⟩, hfr, hsz⟩⟩
        · exact absurd b77 (by decide)
      · exact absurd (by rw [hd]; rfl) c2
  · exact absurd b75 (by decide)

