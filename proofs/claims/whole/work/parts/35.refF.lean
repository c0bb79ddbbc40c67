/-! THE REFERENCE: twice, deliver, its constructor -/
set_option maxHeartbeats 4000000 in
set_option maxRecDepth 100000 in
theorem kR_twice_clock (l : Launch) (G : zG) (B : Nat) (M : zw_M) (sz : Nat) (x z n mb : Nat) (st : zSt) (th pt : Nat) (Y : zRX) (hn : n ≤ 8) (hR : zRR G M x z n mb st th pt Y) (hok : zOK n st) (h120 : st.fl.length ≤ 120) (j : Nat) (hj : j < st.fl.length) (mg : zMg) (hmg : st.fl[j]? = some mg) (k : Int64) (hk : mg.ck = some k) : Met l yR_twice (Cond.code yR_twice bR_twice 4 (some .int) :: zT) { frames := 1, cells := 0, slots := 0, locals := 30 } (zq G B M sz [.ref x, .int (nI j)]) (va_Qi (fun (r : Int32) (u : zw_M × Nat) => r = nI st.se ∧ zRO G x z n mb sz M (zsend st mg.snd mg.rcv mg.byt mg.ck mg.chs) 0 u) (zr_o G.1 zCl B) (zw_A B)) (0) (0) (zw_A B) := by
  refine Met.ofW (cc := bR_twice) (maxL := 4) (ret := (some .int)) (by decide) rfl ?_
  intro p e s m args below meth c s₁ B0 hml hv
  obtain ⟨rfl, hE, hH, hsz⟩ := hv
  have hx := B0.exec
  have hb := B0.bytes
  have hr := B0.returns
  have hlocks := B0.notSynchronized
  have hz : ∀ w ∈ zT, w.before _ s = true := fun w h => atoms_spec (ws := Cond.code yR_twice bR_twice 4 (some .int) :: zT) B0.pre w (List.mem_cons_of_mem _ h)
  have hown : s.vm.findClass RR = some m.cls := findClass_of_methodNamed B0.named
  have hK := hE.1
  have hl := lv_entry ([.ref x, .int (nI j)]) (n := 4) (Nat.le_of_ble_eq_true rfl)
  rw [lg_entry_eq]
  generalize (lg_sl ([.ref x, .int (nI j)]) ++ List.replicate (4 - (lg_sl ([.ref x, .int (nI j)])).length) Slot.unset).toArray = ls at hl ⊢
  have hl : lv_has ls 4 [(0, .ref x), (1, .int (nI j))] := hl
  have hS : va_S (zw_A B) s.heap s.heap [] := va_S.rf
  have hin : meth.name = "twice" := (name_of_methodNamed B0.named B0.method).1
  obtain ⟨m1, m2, m3, m4, m5, m6⟩ := hR.msg j mg hmg
  have hrb := hR.rwb j (by omega)
  have hmo := hok.msg (List.mem_of_getElem? hmg)
  have hl4 := zOK.chs hok mg (List.mem_of_getElem? hmg)
  have hsi0 : Y.si (Y.rw j) = -1 := by rw [m4, hk]; rfl
  have hm3 := hmo.2.2
  rw [hk] at hm3
  have hx0 := hR.obj
  have hrw := hR.rw
  have hfr := hR.fr
  have hto := hR.to
  have hsi := hR.si
  have hcl := hR.cl
  have hins := hR.ins
  have hpart := hR.part
  have hxz := hR.xz
  refine lv_aload_n hx hb dR_twice_0 rfl (lv_at hl 0 rfl) ?_
  refine lv_aload_n hx hb dR_twice_1 rfl (lv_at hl 0 rfl) ?_
  refine lv_iload_n hx hb dR_twice_2 rfl (lv_at hl 1 rfl) ?_
  refine zr_V (As := [.int (nI j)]) (rest := [.ref x]) (q := (RR, TR, 22)) ⟨hx, hb, hml, hown, hz⟩ (kR_isMessage_in l G B M x z n mb st th pt Y hn hR h120 j hj) (zt_V zm_491 zm_493 zs_20 zm_3 zm_494) rfl rfl rfl (show _ ∧ _ ∧ _ ∧ _ = some 1 from by decide +kernel) ⟨Nat.le_of_ble_eq_true rfl, Nat.le_of_ble_eq_true rfl⟩ zE_blind (zE_at hE hS) hH hK hx0 rfl rfl hl.1 rfl (Nat.le_of_ble_eq_true rfl) dR_twice_3 ⟨Nat.le_of_ble_eq_true rfl, Nat.le_of_ble_eq_true rfl⟩ ?_
  refine zc_eq0 (tgt := 13) hx hb dR_twice_6 (by decide) (by decide) (fun b78 => ?_) (fun b78 => ?_)
  · exact absurd b78 (by decide)
  · refine lv_iconst (v := nI 0) hx hb dR_twice_9 (by decide) ?_
    refine lv_goto (tgt := 14) hx hb dR_twice_10 (by decide) ?_
    refine zw_put (D := G.1) (ci := 2) (v := .int (nI 0)) (ty := .int) (C := RR) (T := TR) (N := 22) hx hb hz iR tR tR_ok nR hown hK hH hS hx0 rfl 0 (by decide) (hz _ zm_388) (fun _ h9 => h9) rfl (by decide +kernel) rfl rfl (Nat.le_of_ble_eq_true rfl) dR_twice_14 (fun H1 L1 hH hz1 hS => ?_)
    have hsz : H1.size = sz := hz1.trans hsz
    obtain ⟨M1, hM1⟩ : ∃ Mq, Mq = zw_u M x (.inr (2, zoR 0 n mb z st.fl.length st.se st.lo st.go st.pa pt)) := ⟨_, rfl⟩
    have hH : zw_H G.1 zCl B M1 H1 := by rw [hM1]; exact hH
    have hrw : M1 (z + 5) = some (.inl (G.2.1 0, 120, .inl (fun a9 => nI (Y.rw a9)))) := by rw [hM1, zw_un _ _ (by omega)]; exact hrw
    have hfr : M1 (z + 7) = some (.inl (G.2.1 0, 120, .inl Y.fr)) := by rw [hM1, zw_un _ _ (by omega)]; exact hfr
    have hto : M1 (z + 8) = some (.inl (G.2.1 0, 120, .inl Y.to)) := by rw [hM1, zw_un _ _ (by omega)]; exact hto
    have hsi : M1 (z + 9) = some (.inl (G.2.1 0, 120, .inl Y.si)) := by rw [hM1, zw_un _ _ (by omega)]; exact hsi
    have hcl : M1 (z + 10) = some (.inl (G.2.1 1, 120, .inr (.inl Y.cl))) := by rw [hM1, zw_un _ _ (by omega)]; exact hcl
    have hins : M1 (z + 11) = some (.inl (G.2.1 0, 57600, .inl Y.ins)) := by rw [hM1, zw_un _ _ (by omega)]; exact hins
    have hpart : M1 (z + 12) = some (.inl (G.2.1 0, 480, .inl Y.part)) := by rw [hM1, zw_un _ _ (by omega)]; exact hpart
    have hx0 : M1 x = some (.inr (2, zoR 0 n mb z st.fl.length st.se st.lo st.go st.pa pt)) := by rw [hM1]; exact zw_us _ _ _
    have hkx : ∀ a : Nat, a ≠ x → M1 a = M a := fun a h1 => by rw [hM1, zw_un _ _ h1]
    have hRn : zRR G M1 x z n mb st 0 pt Y := hR.cnt (st' := st) rfl rfl rfl rfl hx0 (fun a e h1 h2 => (hkx a h1).trans h2)
    refine lv_aload_n hx hb dR_twice_17 rfl (lv_at hl 0 rfl) ?_
    refine va_get (D := G.1) (ci := 2) (v := .int (nI 0)) (C := RR) (T := TR) (N := 22) hx hb hz iR hown hK (hH.one hx0) 0 rfl rfl 0 (by decide) (hz _ zm_388) (fun _ h9 => h9) rfl dR_twice_18 ?_
    refine zc_le0 (tgt := 26) hx hb dR_twice_21 (by decide) (by decide) (fun b79 => ?_) (fun b79 => ?_)
    · refine lv_aload_n hx hb dR_twice_26 rfl (lv_at hl 0 rfl) ?_
      refine va_get (D := G.1) (ci := 2) (v := .ref (z + 5)) (C := RR) (T := TR) (N := 22) hx hb hz iR hown hK (hH.one hx0) 0 rfl rfl 8 (by decide) (hz _ zm_396) (fun _ h9 => h9) rfl dR_twice_27 ?_
      refine lv_iload_n hx hb dR_twice_30 rfl (lv_at hl 1 rfl) ?_
      refine zw_iald hx hb hK hH 0 hrw rfl (j) rfl (by omega) (by decide) dR_twice_31 ?_
      refine lv_istore_n (lv' := [(2, .int (nI (Y.rw j))), (0, .ref x), (1, .int (nI j))]) hx hb dR_twice_32 rfl hl (by decide) rfl (fun ls hl => ?_)
      refine lv_iconst (v := nI 0) hx hb dR_twice_33 (by decide) ?_
      refine lv_istore_n (lv' := [(3, .int (nI 0)), (2, .int (nI (Y.rw j))), (0, .ref x), (1, .int (nI j))]) hx hb dR_twice_34 rfl hl (by decide) rfl (fun ls hl => ?_)
      refine lv_iload_n hx hb dR_twice_35 rfl (lv_at hl 0 rfl) ?_
      refine lv_aload_n hx hb dR_twice_36 rfl (lv_at hl 2 rfl) ?_
      refine va_get (D := G.1) (ci := 2) (v := .ref (z + 9)) (C := RR) (T := TR) (N := 22) hx hb hz iR hown hK (hH.one hx0) 0 rfl rfl 13 (by decide) (hz _ zm_401) (fun _ h9 => h9) rfl dR_twice_37 ?_
      refine lv_iload_n hx hb dR_twice_40 rfl (lv_at hl 1 rfl) ?_
      refine zw_iald hx hb hK hH 0 hsi rfl (Y.rw j) rfl (hrb) (by decide) dR_twice_41 ?_
      rw [hsi0]
      refine lv_icmp_ge (tgt := 69) hx hb dR_twice_42 (by decide) (fun _ => ?_) (fun h => absurd (by decide) h)
      refine lv_aload_n hx hb dR_twice_69 rfl (lv_at hl 2 rfl) ?_
      refine lv_aload_n hx hb dR_twice_70 rfl (lv_at hl 2 rfl) ?_
      refine va_get (D := G.1) (ci := 2) (v := .ref (z + 7)) (C := RR) (T := TR) (N := 22) hx hb hz iR hown hK (hH.one hx0) 0 rfl rfl 11 (by decide) (hz _ zm_399) (fun _ h9 => h9) rfl dR_twice_71 ?_
      refine lv_iload_n hx hb dR_twice_74 rfl (lv_at hl 1 rfl) ?_
      refine zw_iald hx hb hK hH 0 hfr rfl (Y.rw j) rfl (hrb) (by decide) dR_twice_75 ?_
      refine zw_ti (m2) ?_
      refine lv_aload_n hx hb dR_twice_76 rfl (lv_at hl 2 rfl) ?_
      refine va_get (D := G.1) (ci := 2) (v := .ref (z + 8)) (C := RR) (T := TR) (N := 22) hx hb hz iR hown hK (hH.one hx0) 0 rfl rfl 12 (by decide) (hz _ zm_400) (fun _ h9 => h9) rfl dR_twice_77 ?_
      refine lv_iload_n hx hb dR_twice_80 rfl (lv_at hl 1 rfl) ?_
      refine zw_iald hx hb hK hH 0 hto rfl (Y.rw j) rfl (hrb) (by decide) dR_twice_81 ?_
      refine zw_ti (m3) ?_
      refine lv_aload_n hx hb dR_twice_82 rfl (lv_at hl 2 rfl) ?_
      refine va_get (D := G.1) (ci := 2) (v := .ref (z + 9)) (C := RR) (T := TR) (N := 22) hx hb hz iR hown hK (hH.one hx0) 0 rfl rfl 13 (by decide) (hz _ zm_401) (fun _ h9 => h9) rfl dR_twice_83 ?_
      refine lv_iload_n hx hb dR_twice_86 rfl (lv_at hl 1 rfl) ?_
      refine zw_iald hx hb hK hH 0 hsi rfl (Y.rw j) rfl (hrb) (by decide) dR_twice_87 ?_
      refine zw_ti (m4) ?_
      refine lv_aload_n hx hb dR_twice_88 rfl (lv_at hl 2 rfl) ?_
      refine va_get (D := G.1) (ci := 2) (v := .ref (z + 10)) (C := RR) (T := TR) (N := 22) hx hb hz iR hown hK (hH.one hx0) 0 rfl rfl 14 (by decide) (hz _ zm_402) (fun _ h9 => h9) rfl dR_twice_89 ?_
      refine lv_iload_n hx hb dR_twice_92 rfl (lv_at hl 1 rfl) ?_
      refine zw_lald hx hb hK hH 1 hcl rfl (Y.rw j) rfl (hrb) (by decide) dR_twice_93 ?_
      refine zr_Vi (As := [.int (nI mg.snd), .int (nI mg.rcv), .int (zsz mg.ck mg.chs), .long (Y.cl (Y.rw j))]) (rest := []) (q := (RR, TR, 22)) (mc := 0) (ms := 0) ⟨hx, hb, hml, hown, hz⟩ (kR_send l G B M1 _ x z n mb st 0 pt Y hn hRn mg.snd mg.rcv mg.byt mg.ck mg.chs (Y.cl (Y.rw j)) (zOK.chs hok) m5 (fun k h => absurd h (by rw [hm3.2.2]; exact Nat.not_lt_zero k)) hl4 h120 (Or.inr hm3.2.2)) (zt_V zm_483 zm_485 zs_19 zm_3 zm_486) rfl rfl rfl (show _ ∧ _ ∧ _ ∧ _ = some 4 from by decide +kernel) ⟨Nat.le_of_ble_eq_true rfl, Nat.le_of_ble_eq_true rfl⟩ zE_blind (zE_at hE hS) hH hK hx0 rfl rfl hS hl.1 rfl (Nat.le_of_ble_eq_true rfl) dR_twice_94 ⟨Nat.le_of_ble_eq_true rfl, Nat.le_of_ble_eq_true rfl⟩ (fun r2 M2 sz2 H2 L2 hp hH hz1 hz2 hS => ?_)
      obtain ⟨rfl, ⟨Y2, hR2⟩, hfr2, hz3⟩ := hp
      have hsz : H2.size = sz := hz1.trans (hz3.trans hsz)
      exact W.iret (v := (nI st.se)) hx hb hr (fun t ht hW => ⟨⟨(nI st.se), (M2, sz), rfl, ⟨rfl, ⟨pt, Y2, hR2⟩, zrf.tr (fun q h1 h2 => hkx q h1) hfr2, rfl⟩, by rw [ht]; exact hH, by rw [ht]; exact hsz⟩, hS.F ht⟩) hS.2.2 dR_twice_97
    · exact absurd b79 (by decide)

set_option maxHeartbeats 4000000 in
set_option maxRecDepth 100000 in
theorem kR_twice_part (l : Launch) (G : zG) (B : Nat) (M : zw_M) (sz : Nat) (x z n mb : Nat) (st : zSt) (th pt : Nat) (Y : zRX) (hn : n ≤ 8) (hR : zRR G M x z n mb st th pt Y) (hok : zOK n st) (h120 : st.fl.length ≤ 120) (j : Nat) (hj : j < st.fl.length) (mg : zMg) (hmg : st.fl[j]? = some mg) (hk : mg.ck = none) : Met l yR_twice (Cond.code yR_twice bR_twice 4 (some .int) :: zT) { frames := 1, cells := 0, slots := 0, locals := 30 } (zq G B M sz [.ref x, .int (nI j)]) (va_Qi (fun (r : Int32) (u : zw_M × Nat) => r = nI st.se ∧ zRO G x z n mb sz M (zsend st mg.snd mg.rcv mg.byt mg.ck mg.chs) 0 u) (zr_o G.1 zCl B) (zw_A B)) (0) (0) (zw_A B) := by
  refine Met.ofW (cc := bR_twice) (maxL := 4) (ret := (some .int)) (by decide) rfl ?_
  intro p e s m args below meth c s₁ B0 hml hv
  obtain ⟨rfl, hE, hH, hsz⟩ := hv
  have hx := B0.exec
  have hb := B0.bytes
  have hr := B0.returns
  have hlocks := B0.notSynchronized
  have hz : ∀ w ∈ zT, w.before _ s = true := fun w h => atoms_spec (ws := Cond.code yR_twice bR_twice 4 (some .int) :: zT) B0.pre w (List.mem_cons_of_mem _ h)
  have hown : s.vm.findClass RR = some m.cls := findClass_of_methodNamed B0.named
  have hK := hE.1
  have hl := lv_entry ([.ref x, .int (nI j)]) (n := 4) (Nat.le_of_ble_eq_true rfl)
  rw [lg_entry_eq]
  generalize (lg_sl ([.ref x, .int (nI j)]) ++ List.replicate (4 - (lg_sl ([.ref x, .int (nI j)])).length) Slot.unset).toArray = ls at hl ⊢
  have hl : lv_has ls 4 [(0, .ref x), (1, .int (nI j))] := hl
  have hS : va_S (zw_A B) s.heap s.heap [] := va_S.rf
  have hin : meth.name = "twice" := (name_of_methodNamed B0.named B0.method).1
  obtain ⟨m1, m2, m3, m4, m5, m6⟩ := hR.msg j mg hmg
  have hrb := hR.rwb j (by omega)
  have hmo := hok.msg (List.mem_of_getElem? hmg)
  have hl4 := zOK.chs hok mg (List.mem_of_getElem? hmg)
  have hsi0 : Y.si (Y.rw j) = nI mg.chs.length := by rw [m4, hk]; rfl
  have hx0 := hR.obj
  have hrw := hR.rw
  have hfr := hR.fr
  have hto := hR.to
  have hsi := hR.si
  have hcl := hR.cl
  have hins := hR.ins
  have hpart := hR.part
  have hxz := hR.xz
  refine lv_aload_n hx hb dR_twice_0 rfl (lv_at hl 0 rfl) ?_
  refine lv_aload_n hx hb dR_twice_1 rfl (lv_at hl 0 rfl) ?_
  refine lv_iload_n hx hb dR_twice_2 rfl (lv_at hl 1 rfl) ?_
  refine zr_V (As := [.int (nI j)]) (rest := [.ref x]) (q := (RR, TR, 22)) ⟨hx, hb, hml, hown, hz⟩ (kR_isMessage_in l G B M x z n mb st th pt Y hn hR h120 j hj) (zt_V zm_491 zm_493 zs_20 zm_3 zm_494) rfl rfl rfl (show _ ∧ _ ∧ _ ∧ _ = some 1 from by decide +kernel) ⟨Nat.le_of_ble_eq_true rfl, Nat.le_of_ble_eq_true rfl⟩ zE_blind (zE_at hE hS) hH hK hx0 rfl rfl hl.1 rfl (Nat.le_of_ble_eq_true rfl) dR_twice_3 ⟨Nat.le_of_ble_eq_true rfl, Nat.le_of_ble_eq_true rfl⟩ ?_
  refine zc_eq0 (tgt := 13) hx hb dR_twice_6 (by decide) (by decide) (fun b80 => ?_) (fun b80 => ?_)
  · exact absurd b80 (by decide)
  · refine lv_iconst (v := nI 0) hx hb dR_twice_9 (by decide) ?_
    refine lv_goto (tgt := 14) hx hb dR_twice_10 (by decide) ?_
    refine zw_put (D := G.1) (ci := 2) (v := .int (nI 0)) (ty := .int) (C := RR) (T := TR) (N := 22) hx hb hz iR tR tR_ok nR hown hK hH hS hx0 rfl 0 (by decide) (hz _ zm_388) (fun _ h9 => h9) rfl (by decide +kernel) rfl rfl (Nat.le_of_ble_eq_true rfl) dR_twice_14 (fun H1 L1 hH hz1 hS => ?_)
    have hsz : H1.size = sz := hz1.trans hsz
    obtain ⟨M1, hM1⟩ : ∃ Mq, Mq = zw_u M x (.inr (2, zoR 0 n mb z st.fl.length st.se st.lo st.go st.pa pt)) := ⟨_, rfl⟩
    have hH : zw_H G.1 zCl B M1 H1 := by rw [hM1]; exact hH
    have hrw : M1 (z + 5) = some (.inl (G.2.1 0, 120, .inl (fun a9 => nI (Y.rw a9)))) := by rw [hM1, zw_un _ _ (by omega)]; exact hrw
    have hfr : M1 (z + 7) = some (.inl (G.2.1 0, 120, .inl Y.fr)) := by rw [hM1, zw_un _ _ (by omega)]; exact hfr
    have hto : M1 (z + 8) = some (.inl (G.2.1 0, 120, .inl Y.to)) := by rw [hM1, zw_un _ _ (by omega)]; exact hto
    have hsi : M1 (z + 9) = some (.inl (G.2.1 0, 120, .inl Y.si)) := by rw [hM1, zw_un _ _ (by omega)]; exact hsi
    have hcl : M1 (z + 10) = some (.inl (G.2.1 1, 120, .inr (.inl Y.cl))) := by rw [hM1, zw_un _ _ (by omega)]; exact hcl
    have hins : M1 (z + 11) = some (.inl (G.2.1 0, 57600, .inl Y.ins)) := by rw [hM1, zw_un _ _ (by omega)]; exact hins
    have hpart : M1 (z + 12) = some (.inl (G.2.1 0, 480, .inl Y.part)) := by rw [hM1, zw_un _ _ (by omega)]; exact hpart
    have hx0 : M1 x = some (.inr (2, zoR 0 n mb z st.fl.length st.se st.lo st.go st.pa pt)) := by rw [hM1]; exact zw_us _ _ _
    have hkx : ∀ a : Nat, a ≠ x → M1 a = M a := fun a h1 => by rw [hM1, zw_un _ _ h1]
    have hRn : zRR G M1 x z n mb st 0 pt Y := hR.cnt (st' := st) rfl rfl rfl rfl hx0 (fun a e h1 h2 => (hkx a h1).trans h2)
    refine lv_aload_n hx hb dR_twice_17 rfl (lv_at hl 0 rfl) ?_
    refine va_get (D := G.1) (ci := 2) (v := .int (nI 0)) (C := RR) (T := TR) (N := 22) hx hb hz iR hown hK (hH.one hx0) 0 rfl rfl 0 (by decide) (hz _ zm_388) (fun _ h9 => h9) rfl dR_twice_18 ?_
    refine zc_le0 (tgt := 26) hx hb dR_twice_21 (by decide) (by decide) (fun b81 => ?_) (fun b81 => ?_)
    · refine lv_aload_n hx hb dR_twice_26 rfl (lv_at hl 0 rfl) ?_
      refine va_get (D := G.1) (ci := 2) (v := .ref (z + 5)) (C := RR) (T := TR) (N := 22) hx hb hz iR hown hK (hH.one hx0) 0 rfl rfl 8 (by decide) (hz _ zm_396) (fun _ h9 => h9) rfl dR_twice_27 ?_
      refine lv_iload_n hx hb dR_twice_30 rfl (lv_at hl 1 rfl) ?_
      refine zw_iald hx hb hK hH 0 hrw rfl (j) rfl (by omega) (by decide) dR_twice_31 ?_
      refine lv_istore_n (lv' := [(2, .int (nI (Y.rw j))), (0, .ref x), (1, .int (nI j))]) hx hb dR_twice_32 rfl hl (by decide) rfl (fun ls hl => ?_)
      refine lv_iconst (v := nI 0) hx hb dR_twice_33 (by decide) ?_
      refine lv_istore_n (lv' := [(3, .int (nI 0)), (2, .int (nI (Y.rw j))), (0, .ref x), (1, .int (nI j))]) hx hb dR_twice_34 rfl hl (by decide) rfl (fun ls hl => ?_)
      refine zl_upH (Wg := fun ls H locs => W p l e _ s m _ below meth c H locs 0 0 _ (F0 m 35 ls [])) (fun i ls H locs => lv_has ls 4 [(0, .ref x), (1, .int (nI j)), (2, .int (nI (Y.rw j))), (3, .int (nI i))] ∧ ∃ Mq : zw_M, zw_H G.1 zCl B Mq H ∧ va_S (zw_A B) s.heap H locs ∧ Mq = zw_u M1 (z + 12) (.inl (G.2.1 0, 480, .inl (zcp Y.part (fun q => Y.ins (480 * Y.rw j + q)) 0 i))) ∧ H.size = sz) mg.chs.length ?_ (i := 0) (by omega) ⟨lv_sub hl [2, 3, 1, 0] rfl, M1, hH, hS, ⟨by rw [zcp_0, zw_ui hpart], hsz⟩⟩
      intro i hi ls Hi Li ⟨hl, Mi, hH, hS, hI⟩ ih
      have hl : lv_has ls 4 [(0, .ref x), (1, .int (nI j)), (2, .int (nI (Y.rw j))), (3, .int (nI i))] := hl
      obtain ⟨hMi, hsz⟩ := hI
      have hx0 : Mi x = some (.inr (2, zoR 0 n mb z st.fl.length st.se st.lo st.go st.pa pt)) := by rw [hMi, zw_un _ _ (by omega)]; exact hx0
      have hrw : Mi (z + 5) = some (.inl (G.2.1 0, 120, .inl (fun a9 => nI (Y.rw a9)))) := by rw [hMi, zw_un _ _ (by omega)]; exact hrw
      have hfr : Mi (z + 7) = some (.inl (G.2.1 0, 120, .inl Y.fr)) := by rw [hMi, zw_un _ _ (by omega)]; exact hfr
      have hto : Mi (z + 8) = some (.inl (G.2.1 0, 120, .inl Y.to)) := by rw [hMi, zw_un _ _ (by omega)]; exact hto
      have hsi : Mi (z + 9) = some (.inl (G.2.1 0, 120, .inl Y.si)) := by rw [hMi, zw_un _ _ (by omega)]; exact hsi
      have hcl : Mi (z + 10) = some (.inl (G.2.1 1, 120, .inr (.inl Y.cl))) := by rw [hMi, zw_un _ _ (by omega)]; exact hcl
      have hins : Mi (z + 11) = some (.inl (G.2.1 0, 57600, .inl Y.ins)) := by rw [hMi, zw_un _ _ (by omega)]; exact hins
      have hpart : Mi (z + 12) = some (.inl (G.2.1 0, 480, .inl (zcp Y.part (fun q => Y.ins (480 * Y.rw j + q)) 0 i))) := by rw [hMi]; exact zw_us _ _ _
      refine lv_iload_n hx hb dR_twice_35 rfl (lv_at hl 3 rfl) ?_
      refine lv_aload_n hx hb dR_twice_36 rfl (lv_at hl 0 rfl) ?_
      refine va_get (D := G.1) (ci := 2) (v := .ref (z + 9)) (C := RR) (T := TR) (N := 22) hx hb hz iR hown hK (hH.one hx0) 0 rfl rfl 13 (by decide) (hz _ zm_401) (fun _ h9 => h9) rfl dR_twice_37 ?_
      refine lv_iload_n hx hb dR_twice_40 rfl (lv_at hl 2 rfl) ?_
      refine zw_iald hx hb hK hH 0 hsi rfl (Y.rw j) rfl (hrb) (by decide) dR_twice_41 ?_
      refine zw_ti (hsi0) ?_
      refine zc_ge (tgt := 69) hx hb dR_twice_42 (by decide) (by omega) (by omega) (fun b7 => ?_) (fun b7 => ?_)
      · have e1 : mg.chs.length = i := by omega
        rw [← e1] at hpart
        have hRp : zRR G Mi x z n mb st 0 pt (zRX.mk Y.rw Y.nu Y.fr Y.to Y.si Y.cl Y.ins (zcp Y.part (fun q => Y.ins (480 * Y.rw j + q)) 0 mg.chs.length)) := hRn.prt (fun a e h1 h2 => by rw [hMi, zw_un _ _ h1]; exact h2) hpart
        have hfi : zrf x z M Mi := fun q h1 h2 => by rw [hMi, zw_un _ _ (by omega)]; exact hkx q h1
        have hpc : ∀ k, k < mg.chs.length → zcp Y.part (fun q => Y.ins (480 * Y.rw j + q)) 0 mg.chs.length k = nI (mg.chs.getD k 0) := fun k hk => by have h9 := zcp_in Y.part (fun q => Y.ins (480 * Y.rw j + q)) (b := 0) hk; rw [Nat.zero_add] at h9; rw [h9]; exact m6 k hk
        refine lv_aload_n hx hb dR_twice_69 rfl (lv_at hl 0 rfl) ?_
        refine lv_aload_n hx hb dR_twice_70 rfl (lv_at hl 0 rfl) ?_
        refine va_get (D := G.1) (ci := 2) (v := .ref (z + 7)) (C := RR) (T := TR) (N := 22) hx hb hz iR hown hK (hH.one hx0) 0 rfl rfl 11 (by decide) (hz _ zm_399) (fun _ h9 => h9) rfl dR_twice_71 ?_
        refine lv_iload_n hx hb dR_twice_74 rfl (lv_at hl 2 rfl) ?_
        refine zw_iald hx hb hK hH 0 hfr rfl (Y.rw j) rfl (hrb) (by decide) dR_twice_75 ?_
        refine zw_ti (m2) ?_
        refine lv_aload_n hx hb dR_twice_76 rfl (lv_at hl 0 rfl) ?_
        refine va_get (D := G.1) (ci := 2) (v := .ref (z + 8)) (C := RR) (T := TR) (N := 22) hx hb hz iR hown hK (hH.one hx0) 0 rfl rfl 12 (by decide) (hz _ zm_400) (fun _ h9 => h9) rfl dR_twice_77 ?_
        refine lv_iload_n hx hb dR_twice_80 rfl (lv_at hl 2 rfl) ?_
        refine zw_iald hx hb hK hH 0 hto rfl (Y.rw j) rfl (hrb) (by decide) dR_twice_81 ?_
        refine zw_ti (m3) ?_
        refine lv_aload_n hx hb dR_twice_82 rfl (lv_at hl 0 rfl) ?_
        refine va_get (D := G.1) (ci := 2) (v := .ref (z + 9)) (C := RR) (T := TR) (N := 22) hx hb hz iR hown hK (hH.one hx0) 0 rfl rfl 13 (by decide) (hz _ zm_401) (fun _ h9 => h9) rfl dR_twice_83 ?_
        refine lv_iload_n hx hb dR_twice_86 rfl (lv_at hl 2 rfl) ?_
        refine zw_iald hx hb hK hH 0 hsi rfl (Y.rw j) rfl (hrb) (by decide) dR_twice_87 ?_
        refine zw_ti (m4) ?_
        refine lv_aload_n hx hb dR_twice_88 rfl (lv_at hl 0 rfl) ?_
        refine va_get (D := G.1) (ci := 2) (v := .ref (z + 10)) (C := RR) (T := TR) (N := 22) hx hb hz iR hown hK (hH.one hx0) 0 rfl rfl 14 (by decide) (hz _ zm_402) (fun _ h9 => h9) rfl dR_twice_89 ?_
        refine lv_iload_n hx hb dR_twice_92 rfl (lv_at hl 2 rfl) ?_
        refine zw_lald hx hb hK hH 1 hcl rfl (Y.rw j) rfl (hrb) (by decide) dR_twice_93 ?_
        refine zr_Vi (As := [.int (nI mg.snd), .int (nI mg.rcv), .int (zsz mg.ck mg.chs), .long (Y.cl (Y.rw j))]) (rest := []) (q := (RR, TR, 22)) (mc := 0) (ms := 0) ⟨hx, hb, hml, hown, hz⟩ (kR_send l G B Mi _ x z n mb st 0 pt (zRX.mk Y.rw Y.nu Y.fr Y.to Y.si Y.cl Y.ins (zcp Y.part (fun q => Y.ins (480 * Y.rw j + q)) 0 mg.chs.length)) hn hRp mg.snd mg.rcv mg.byt mg.ck mg.chs (Y.cl (Y.rw j)) (zOK.chs hok) m5 hpc hl4 h120 (Or.inl hk)) (zt_V zm_483 zm_485 zs_19 zm_3 zm_486) rfl rfl rfl (show _ ∧ _ ∧ _ ∧ _ = some 4 from by decide +kernel) ⟨Nat.le_of_ble_eq_true rfl, Nat.le_of_ble_eq_true rfl⟩ zE_blind (zE_at hE hS) hH hK hx0 rfl rfl hS hl.1 rfl (Nat.le_of_ble_eq_true rfl) dR_twice_94 ⟨Nat.le_of_ble_eq_true rfl, Nat.le_of_ble_eq_true rfl⟩ (fun r2 M2 sz2 H2 L2 hp hH hz1 hz2 hS => ?_)
        obtain ⟨rfl, ⟨Y2, hR2⟩, hfr2, hz3⟩ := hp
        have hsz : H2.size = sz := hz1.trans (hz3.trans hsz)
        exact W.iret (v := (nI st.se)) hx hb hr (fun t ht hW => ⟨⟨(nI st.se), (M2, sz), rfl, ⟨rfl, ⟨pt, Y2, hR2⟩, hfi.tr hfr2, rfl⟩, by rw [ht]; exact hH, by rw [ht]; exact hsz⟩, hS.F ht⟩) hS.2.2 dR_twice_97
      · refine lv_aload_n hx hb dR_twice_45 rfl (lv_at hl 0 rfl) ?_
        refine va_get (D := G.1) (ci := 2) (v := .ref (z + 12)) (C := RR) (T := TR) (N := 22) hx hb hz iR hown hK (hH.one hx0) 0 rfl rfl 20 (by decide) (hz _ zm_408) (fun _ h9 => h9) rfl dR_twice_46 ?_
        refine lv_iload_n hx hb dR_twice_49 rfl (lv_at hl 3 rfl) ?_
        refine lv_aload_n hx hb dR_twice_50 rfl (lv_at hl 0 rfl) ?_
        refine va_get (D := G.1) (ci := 2) (v := .ref (z + 11)) (C := RR) (T := TR) (N := 22) hx hb hz iR hown hK (hH.one hx0) 0 rfl rfl 15 (by decide) (hz _ zm_403) (fun _ h9 => h9) rfl dR_twice_51 ?_
        refine lv_sipush (v := nI 480) hx hb dR_twice_54 (by decide) ?_
        refine lv_iload_n hx hb dR_twice_57 rfl (lv_at hl 2 rfl) ?_
        refine lv_imul hx hb dR_twice_58 ?_
        refine zw_ti (pk_mul _ _) ?_
        refine lv_iload_n hx hb dR_twice_59 rfl (lv_at hl 3 rfl) ?_
        refine lv_iadd hx hb dR_twice_60 ?_
        refine zw_ti (nI_add _ _) ?_
        refine zw_iald hx hb hK hH 0 hins rfl (480 * Y.rw j + i) rfl (by omega) (by decide) dR_twice_61 ?_
        refine zw_iast hx hb hK hH hS 0 hpart rfl (i) rfl (by omega) (by decide) dR_twice_62 (fun H2 L2 hH hz1 hS => ?_)
        have hsz : H2.size = sz := hz1.trans hsz
        obtain ⟨M2, hM2⟩ : ∃ Mq, Mq = zw_u Mi (z + 12) (.inl (G.2.1 0, 480, .inl (upd (zcp Y.part (fun q => Y.ins (480 * Y.rw j + q)) 0 i) i (Y.ins (480 * Y.rw j + i))))) := ⟨_, rfl⟩
        have hH : zw_H G.1 zCl B M2 H2 := by rw [hM2]; exact hH
        have hx0 : M2 x = some (.inr (2, zoR 0 n mb z st.fl.length st.se st.lo st.go st.pa pt)) := by rw [hM2, zw_un _ _ (by omega)]; exact hx0
        have hrw : M2 (z + 5) = some (.inl (G.2.1 0, 120, .inl (fun a9 => nI (Y.rw a9)))) := by rw [hM2, zw_un _ _ (by omega)]; exact hrw
        have hfr : M2 (z + 7) = some (.inl (G.2.1 0, 120, .inl Y.fr)) := by rw [hM2, zw_un _ _ (by omega)]; exact hfr
        have hto : M2 (z + 8) = some (.inl (G.2.1 0, 120, .inl Y.to)) := by rw [hM2, zw_un _ _ (by omega)]; exact hto
        have hsi : M2 (z + 9) = some (.inl (G.2.1 0, 120, .inl Y.si)) := by rw [hM2, zw_un _ _ (by omega)]; exact hsi
        have hcl : M2 (z + 10) = some (.inl (G.2.1 1, 120, .inr (.inl Y.cl))) := by rw [hM2, zw_un _ _ (by omega)]; exact hcl
        have hins : M2 (z + 11) = some (.inl (G.2.1 0, 57600, .inl Y.ins)) := by rw [hM2, zw_un _ _ (by omega)]; exact hins
        have hpart : M2 (z + 12) = some (.inl (G.2.1 0, 480, .inl (upd (zcp Y.part (fun q => Y.ins (480 * Y.rw j + q)) 0 i) i (Y.ins (480 * Y.rw j + i))))) := by rw [hM2]; exact zw_us _ _ _
        refine lv_iinc (v := (nI (i + 1))) (lv' := [(3, .int (nI (i + 1))), (0, .ref x), (1, .int (nI j)), (2, .int (nI (Y.rw j)))]) hx hb dR_twice_63 hl (k := 3) rfl (nI_add _ _) (by decide) rfl (fun ls hl => ?_)
        refine lv_goto (tgt := 35) hx hb dR_twice_66 (by decide) ?_
        exact ih b7 ls H2 _ ⟨lv_sub hl [1, 2, 3, 0] rfl, M2, hH, hS, ⟨by rw [hM2, hMi, zw_uu, show upd (zcp Y.part (fun q => Y.ins (480 * Y.rw j + q)) 0 i) i (Y.ins (480 * Y.rw j + i)) = zcp Y.part (fun q => Y.ins (480 * Y.rw j + q)) 0 (i + 1) from by have h9 := zcp_s Y.part (fun q => Y.ins (480 * Y.rw j + q)) 0 i; rw [Nat.zero_add] at h9; exact h9], hsz⟩⟩
    · exact absurd b81 (by decide)

theorem kR_twice (l : Launch) (G : zG) (B : Nat) (M : zw_M) (sz : Nat) (x z n mb : Nat) (st : zSt) (th pt : Nat) (Y : zRX) (hn : n ≤ 8) (hR : zRR G M x z n mb st th pt Y) (hok : zOK n st) (h120 : st.fl.length ≤ 120) (j : Nat) (hj : j < st.fl.length) (mg : zMg) (hmg : st.fl[j]? = some mg) : Met l yR_twice (Cond.code yR_twice bR_twice 4 (some .int) :: zT) { frames := 1, cells := 0, slots := 0, locals := 30 } (zq G B M sz [.ref x, .int (nI j)]) (va_Qi (fun (r : Int32) (u : zw_M × Nat) => r = nI st.se ∧ zRO G x z n mb sz M (zsend st mg.snd mg.rcv mg.byt mg.ck mg.chs) 0 u) (zr_o G.1 zCl B) (zw_A B)) (0) (0) (zw_A B) := by
  cases hk : mg.ck with
  | some k => exact hk ▸ kR_twice_clock l G B M sz x z n mb st th pt Y hn hR hok h120 j hj mg hmg k hk
  | none => exact hk ▸ kR_twice_part l G B M sz x z n mb st th pt Y hn hR hok h120 j hj mg hmg hk
set_option maxHeartbeats 4000000 in
set_option maxRecDepth 100000 in
theorem kR_twice_out (l : Launch) (G : zG) (B : Nat) (M : zw_M) (sz : Nat) (x z n mb : Nat) (st : zSt) (th pt : Nat) (Y : zRX) (hn : n ≤ 8) (hR : zRR G M x z n mb st th pt Y) (a : Int32) (ha : a < 0 ∨ nI st.fl.length ≤ a) : Met l yR_twice (Cond.code yR_twice bR_twice 4 (some .int) :: zT) { frames := 1, cells := 0, slots := 0, locals := 24 } (zq G B M sz [.ref x, .int a]) (va_Qi (fun (r : Int32) (u : zw_M × Nat) => r = nI 0 ∧ zRO G x z n mb sz M st 1 u) (zr_o G.1 zCl B) (zw_A B)) (0) (0) (zw_A B) := by
  refine Met.ofW (cc := bR_twice) (maxL := 4) (ret := (some .int)) (by decide) rfl ?_
  intro p e s m args below meth c s₁ B0 hml hv
  obtain ⟨rfl, hE, hH, hsz⟩ := hv
  have hx := B0.exec
  have hb := B0.bytes
  have hr := B0.returns
  have hlocks := B0.notSynchronized
  have hz : ∀ w ∈ zT, w.before _ s = true := fun w h => atoms_spec (ws := Cond.code yR_twice bR_twice 4 (some .int) :: zT) B0.pre w (List.mem_cons_of_mem _ h)
  have hown : s.vm.findClass RR = some m.cls := findClass_of_methodNamed B0.named
  have hK := hE.1
  have hl := lv_entry ([.ref x, .int a]) (n := 4) (Nat.le_of_ble_eq_true rfl)
  rw [lg_entry_eq]
  generalize (lg_sl ([.ref x, .int a]) ++ List.replicate (4 - (lg_sl ([.ref x, .int a])).length) Slot.unset).toArray = ls at hl ⊢
  have hl : lv_has ls 4 [(0, .ref x), (1, .int a)] := hl
  have hS : va_S (zw_A B) s.heap s.heap [] := va_S.rf
  have hin : meth.name = "twice" := (name_of_methodNamed B0.named B0.method).1
  have hx0 := hR.obj
  have hxz := hR.xz
  refine lv_aload_n hx hb dR_twice_0 rfl (lv_at hl 0 rfl) ?_
  refine lv_aload_n hx hb dR_twice_1 rfl (lv_at hl 0 rfl) ?_
  refine lv_iload_n hx hb dR_twice_2 rfl (lv_at hl 1 rfl) ?_
  refine zr_V (As := [.int a]) (rest := [.ref x]) (q := (RR, TR, 22)) ⟨hx, hb, hml, hown, hz⟩ (kR_isMessage_out l G B M x z n mb st th pt Y hn hR a ha) (zt_V zm_491 zm_493 zs_20 zm_3 zm_494) rfl rfl rfl (show _ ∧ _ ∧ _ ∧ _ = some 1 from by decide +kernel) ⟨Nat.le_of_ble_eq_true rfl, Nat.le_of_ble_eq_true rfl⟩ zE_blind (zE_at hE hS) hH hK hx0 rfl rfl hl.1 rfl (Nat.le_of_ble_eq_true rfl) dR_twice_3 ⟨Nat.le_of_ble_eq_true rfl, Nat.le_of_ble_eq_true rfl⟩ ?_
  refine zc_eq0 (tgt := 13) hx hb dR_twice_6 (by decide) (by decide) (fun b82 => ?_) (fun b82 => ?_)
  · refine lv_iconst (v := nI 1) hx hb dR_twice_13 (by decide) ?_
    refine zw_put (D := G.1) (ci := 2) (v := .int (nI 1)) (ty := .int) (C := RR) (T := TR) (N := 22) hx hb hz iR tR tR_ok nR hown hK hH hS hx0 rfl 0 (by decide) (hz _ zm_388) (fun _ h9 => h9) rfl (by decide +kernel) rfl rfl (Nat.le_of_ble_eq_true rfl) dR_twice_14 (fun H1 L1 hH hz1 hS => ?_)
    have hsz : H1.size = sz := hz1.trans hsz
    obtain ⟨M1, hM1⟩ : ∃ Mq, Mq = zw_u M x (.inr (2, zoR 1 n mb z st.fl.length st.se st.lo st.go st.pa pt)) := ⟨_, rfl⟩
    have hH : zw_H G.1 zCl B M1 H1 := by rw [hM1]; exact hH
    have hx0 : M1 x = some (.inr (2, zoR 1 n mb z st.fl.length st.se st.lo st.go st.pa pt)) := by rw [hM1]; exact zw_us _ _ _
    refine lv_aload_n hx hb dR_twice_17 rfl (lv_at hl 0 rfl) ?_
    refine va_get (D := G.1) (ci := 2) (v := .int (nI 1)) (C := RR) (T := TR) (N := 22) hx hb hz iR hown hK (hH.one hx0) 0 rfl rfl 0 (by decide) (hz _ zm_388) (fun _ h9 => h9) rfl dR_twice_18 ?_
    refine zc_le0 (tgt := 26) hx hb dR_twice_21 (by decide) (by decide) (fun b83 => ?_) (fun b83 => ?_)
    · exact absurd b83 (by decide)
    · refine lv_iconst (v := nI 0) hx hb dR_twice_24 (by decide) ?_
      have hkx : ∀ a : Nat, a ≠ x → M1 a = M a := fun a h1 => by rw [hM1, zw_un _ _ h1]
      exact W.iret (v := (nI 0)) hx hb hr (fun t ht hW => ⟨⟨(nI 0), (M1, sz), rfl, ⟨rfl, ⟨pt, Y, hR.cnt (st' := st) rfl rfl rfl rfl hx0 (fun a e h1 h2 => (hkx a h1).trans h2)⟩, fun q h1 h2 => hkx q h1, rfl⟩, by rw [ht]; exact hH, by rw [ht]; exact hsz⟩, hS.F ht⟩) hS.2.2 dR_twice_25
  · exact absurd b82 (by decide)

set_option maxHeartbeats 4000000 in
set_option maxRecDepth 100000 in
theorem kR_deliver_out (l : Launch) (G : zG) (B : Nat) (M : zw_M) (sz : Nat) (x z n mb : Nat) (st : zSt) (th pt : Nat) (Y : zRX) (hn : n ≤ 8) (hR : zRR G M x z n mb st th pt Y) (a : Int32) (ha : a < 0 ∨ nI st.fl.length ≤ a) : Met l yR_deliver (Cond.code yR_deliver bR_deliver 9 (some .int) :: zT) { frames := 1, cells := 0, slots := 0, locals := 24 } (zq G B M sz [.ref x, .int a]) (va_Qi (fun (r : Int32) (u : zw_M × Nat) => r = nI 0 ∧ zRO G x z n mb sz M st 1 u) (zr_o G.1 zCl B) (zw_A B)) (0) (0) (zw_A B) := by
  refine Met.ofW (cc := bR_deliver) (maxL := 9) (ret := (some .int)) (by decide) rfl ?_
  intro p e s m args below meth c s₁ B0 hml hv
  obtain ⟨rfl, hE, hH, hsz⟩ := hv
  have hx := B0.exec
  have hb := B0.bytes
  have hr := B0.returns
  have hlocks := B0.notSynchronized
  have hz : ∀ w ∈ zT, w.before _ s = true := fun w h => atoms_spec (ws := Cond.code yR_deliver bR_deliver 9 (some .int) :: zT) B0.pre w (List.mem_cons_of_mem _ h)
  have hown : s.vm.findClass RR = some m.cls := findClass_of_methodNamed B0.named
  have hK := hE.1
  have hl := lv_entry ([.ref x, .int a]) (n := 9) (Nat.le_of_ble_eq_true rfl)
  rw [lg_entry_eq]
  generalize (lg_sl ([.ref x, .int a]) ++ List.replicate (9 - (lg_sl ([.ref x, .int a])).length) Slot.unset).toArray = ls at hl ⊢
  have hl : lv_has ls 9 [(0, .ref x), (1, .int a)] := hl
  have hS : va_S (zw_A B) s.heap s.heap [] := va_S.rf
  have hin : meth.name = "deliver" := (name_of_methodNamed B0.named B0.method).1
  have hx0 := hR.obj
  have hxz := hR.xz
  refine lv_aload_n hx hb dR_deliver_0 rfl (lv_at hl 0 rfl) ?_
  refine lv_aload_n hx hb dR_deliver_1 rfl (lv_at hl 0 rfl) ?_
  refine lv_iload_n hx hb dR_deliver_2 rfl (lv_at hl 1 rfl) ?_
  refine zr_V (As := [.int a]) (rest := [.ref x]) (q := (RR, TR, 22)) ⟨hx, hb, hml, hown, hz⟩ (kR_isMessage_out l G B M x z n mb st th pt Y hn hR a ha) (zt_V zm_491 zm_493 zs_20 zm_3 zm_494) rfl rfl rfl (show _ ∧ _ ∧ _ ∧ _ = some 1 from by decide +kernel) ⟨Nat.le_of_ble_eq_true rfl, Nat.le_of_ble_eq_true rfl⟩ zE_blind (zE_at hE hS) hH hK hx0 rfl rfl hl.1 rfl (Nat.le_of_ble_eq_true rfl) dR_deliver_3 ⟨Nat.le_of_ble_eq_true rfl, Nat.le_of_ble_eq_true rfl⟩ ?_
  refine zc_eq0 (tgt := 13) hx hb dR_deliver_6 (by decide) (by decide) (fun b84 => ?_) (fun b84 => ?_)
  · refine lv_iconst (v := nI 1) hx hb dR_deliver_13 (by decide) ?_
    refine zw_put (D := G.1) (ci := 2) (v := .int (nI 1)) (ty := .int) (C := RR) (T := TR) (N := 22) hx hb hz iR tR tR_ok nR hown hK hH hS hx0 rfl 0 (by decide) (hz _ zm_388) (fun _ h9 => h9) rfl (by decide +kernel) rfl rfl (Nat.le_of_ble_eq_true rfl) dR_deliver_14 (fun H1 L1 hH hz1 hS => ?_)
    have hsz : H1.size = sz := hz1.trans hsz
    obtain ⟨M1, hM1⟩ : ∃ Mq, Mq = zw_u M x (.inr (2, zoR 1 n mb z st.fl.length st.se st.lo st.go st.pa pt)) := ⟨_, rfl⟩
    have hH : zw_H G.1 zCl B M1 H1 := by rw [hM1]; exact hH
    have hx0 : M1 x = some (.inr (2, zoR 1 n mb z st.fl.length st.se st.lo st.go st.pa pt)) := by rw [hM1]; exact zw_us _ _ _
    refine lv_aload_n hx hb dR_deliver_17 rfl (lv_at hl 0 rfl) ?_
    refine va_get (D := G.1) (ci := 2) (v := .int (nI 1)) (C := RR) (T := TR) (N := 22) hx hb hz iR hown hK (hH.one hx0) 0 rfl rfl 0 (by decide) (hz _ zm_388) (fun _ h9 => h9) rfl dR_deliver_18 ?_
    refine zc_le0 (tgt := 26) hx hb dR_deliver_21 (by decide) (by decide) (fun b85 => ?_) (fun b85 => ?_)
    · exact absurd b85 (by decide)
    · refine lv_iconst (v := nI 0) hx hb dR_deliver_24 (by decide) ?_
      have hkx : ∀ a : Nat, a ≠ x → M1 a = M a := fun a h1 => by rw [hM1, zw_un _ _ h1]
      exact W.iret (v := (nI 0)) hx hb hr (fun t ht hW => ⟨⟨(nI 0), (M1, sz), rfl, ⟨rfl, ⟨pt, Y, hR.cnt (st' := st) rfl rfl rfl rfl hx0 (fun a e h1 h2 => (hkx a h1).trans h2)⟩, fun q h1 h2 => hkx q h1, rfl⟩, by rw [ht]; exact hH, by rw [ht]; exact hsz⟩, hS.F ht⟩) hS.2.2 dR_deliver_25
  · exact absurd b84 (by decide)

set_option maxHeartbeats 4000000 in
set_option maxRecDepth 100000 in
theorem kR_deliver_clock (l : Launch) (G : zG) (B : Nat) (M : zw_M) (sz : Nat) (x z n mb : Nat) (st : zSt) (th pt : Nat) (Y : zRX) (hn : n ≤ 8) (hR : zRR G M x z n mb st th pt Y) (hok : zOK n st) (h120 : st.fl.length ≤ 120) (j : Nat) (hj : j < st.fl.length) (mg : zMg) (hmg : st.fl[j]? = some mg) (hmb : mb ≤ 2000) (k : Int64) (hk : mg.ck = some k) : Met l yR_deliver (Cond.code yR_deliver bR_deliver 9 (some .int) :: zT) { frames := 2, cells := 0, slots := 0, locals := 60 } (zq G B M sz [.ref x, .int (nI j)]) (va_Qi (fun (r : Int32) (u : zw_M × Nat) => r = nI (zdeliver st j mg mb).2 ∧ zRO G x z n mb sz M ((zdeliver st j mg mb).1) 0 u) (zr_o G.1 zCl B) (zw_A B)) (0) (0) (zw_A B) := by
  refine Met.ofW (cc := bR_deliver) (maxL := 9) (ret := (some .int)) (by decide) rfl ?_
  intro p e s m args below meth c s₁ B0 hml hv
  obtain ⟨rfl, hE, hH, hsz⟩ := hv
  have hx := B0.exec
  have hb := B0.bytes
  have hr := B0.returns
  have hlocks := B0.notSynchronized
  have hz : ∀ w ∈ zT, w.before _ s = true := fun w h => atoms_spec (ws := Cond.code yR_deliver bR_deliver 9 (some .int) :: zT) B0.pre w (List.mem_cons_of_mem _ h)
  have hown : s.vm.findClass RR = some m.cls := findClass_of_methodNamed B0.named
  have hK := hE.1
  have hl := lv_entry ([.ref x, .int (nI j)]) (n := 9) (Nat.le_of_ble_eq_true rfl)
  rw [lg_entry_eq]
  generalize (lg_sl ([.ref x, .int (nI j)]) ++ List.replicate (9 - (lg_sl ([.ref x, .int (nI j)])).length) Slot.unset).toArray = ls at hl ⊢
  have hl : lv_has ls 9 [(0, .ref x), (1, .int (nI j))] := hl
  have hS : va_S (zw_A B) s.heap s.heap [] := va_S.rf
  have hin : meth.name = "deliver" := (name_of_methodNamed B0.named B0.method).1
  obtain ⟨m1, m2, m3, m4, m5, m6⟩ := hR.msg j mg hmg
  have hrb := hR.rwb j (by omega)
  have hmo := hok.msg (List.mem_of_getElem? hmg)
  have hl4 := zOK.chs hok mg (List.mem_of_getElem? hmg)
  have hsi0 : Y.si (Y.rw j) = -1 := by rw [m4, hk]; rfl
  have hx0 := hR.obj
  have hdn := hR.dn
  have hrw := hR.rw
  have hfr := hR.fr
  have hto := hR.to
  have hsi := hR.si
  have hcl := hR.cl
  have hins := hR.ins
  have hpart := hR.part
  have hxz := hR.xz
  refine lv_aload_n hx hb dR_deliver_0 rfl (lv_at hl 0 rfl) ?_
  refine lv_aload_n hx hb dR_deliver_1 rfl (lv_at hl 0 rfl) ?_
  refine lv_iload_n hx hb dR_deliver_2 rfl (lv_at hl 1 rfl) ?_
  refine zr_V (As := [.int (nI j)]) (rest := [.ref x]) (q := (RR, TR, 22)) ⟨hx, hb, hml, hown, hz⟩ (kR_isMessage_in l G B M x z n mb st th pt Y hn hR h120 j hj) (zt_V zm_491 zm_493 zs_20 zm_3 zm_494) rfl rfl rfl (show _ ∧ _ ∧ _ ∧ _ = some 1 from by decide +kernel) ⟨Nat.le_of_ble_eq_true rfl, Nat.le_of_ble_eq_true rfl⟩ zE_blind (zE_at hE hS) hH hK hx0 rfl rfl hl.1 rfl (Nat.le_of_ble_eq_true rfl) dR_deliver_3 ⟨Nat.le_of_ble_eq_true rfl, Nat.le_of_ble_eq_true rfl⟩ ?_
  refine zc_eq0 (tgt := 13) hx hb dR_deliver_6 (by decide) (by decide) (fun b86 => ?_) (fun b86 => ?_)
  · exact absurd b86 (by decide)
  · refine lv_iconst (v := nI 0) hx hb dR_deliver_9 (by decide) ?_
    refine lv_goto (tgt := 14) hx hb dR_deliver_10 (by decide) ?_
    refine zw_put (D := G.1) (ci := 2) (v := .int (nI 0)) (ty := .int) (C := RR) (T := TR) (N := 22) hx hb hz iR tR tR_ok nR hown hK hH hS hx0 rfl 0 (by decide) (hz _ zm_388) (fun _ h9 => h9) rfl (by decide +kernel) rfl rfl (Nat.le_of_ble_eq_true rfl) dR_deliver_14 (fun H1 L1 hH hz1 hS => ?_)
    have hsz : H1.size = sz := hz1.trans hsz
    obtain ⟨M1, hM1⟩ : ∃ Mq, Mq = zw_u M x (.inr (2, zoR 0 n mb z st.fl.length st.se st.lo st.go st.pa pt)) := ⟨_, rfl⟩
    have hH : zw_H G.1 zCl B M1 H1 := by rw [hM1]; exact hH
    have hdn : M1 z = some (.inl (G.2.1 2, 8, .inl (fun a9 => nI (st.dn a9).toNat))) := by rw [hM1, zw_un _ _ (by omega)]; exact hdn
    have hrw : M1 (z + 5) = some (.inl (G.2.1 0, 120, .inl (fun a9 => nI (Y.rw a9)))) := by rw [hM1, zw_un _ _ (by omega)]; exact hrw
    have hfr : M1 (z + 7) = some (.inl (G.2.1 0, 120, .inl Y.fr)) := by rw [hM1, zw_un _ _ (by omega)]; exact hfr
    have hto : M1 (z + 8) = some (.inl (G.2.1 0, 120, .inl Y.to)) := by rw [hM1, zw_un _ _ (by omega)]; exact hto
    have hsi : M1 (z + 9) = some (.inl (G.2.1 0, 120, .inl Y.si)) := by rw [hM1, zw_un _ _ (by omega)]; exact hsi
    have hcl : M1 (z + 10) = some (.inl (G.2.1 1, 120, .inr (.inl Y.cl))) := by rw [hM1, zw_un _ _ (by omega)]; exact hcl
    have hins : M1 (z + 11) = some (.inl (G.2.1 0, 57600, .inl Y.ins)) := by rw [hM1, zw_un _ _ (by omega)]; exact hins
    have hpart : M1 (z + 12) = some (.inl (G.2.1 0, 480, .inl Y.part)) := by rw [hM1, zw_un _ _ (by omega)]; exact hpart
    have hx0 : M1 x = some (.inr (2, zoR 0 n mb z st.fl.length st.se st.lo st.go st.pa pt)) := by rw [hM1]; exact zw_us _ _ _
    have hkx : ∀ a : Nat, a ≠ x → M1 a = M a := fun a h1 => by rw [hM1, zw_un _ _ h1]
    have hRn : zRR G M1 x z n mb st 0 pt Y := hR.cnt (st' := st) rfl rfl rfl rfl hx0 (fun a e h1 h2 => (hkx a h1).trans h2)
    refine lv_aload_n hx hb dR_deliver_17 rfl (lv_at hl 0 rfl) ?_
    refine va_get (D := G.1) (ci := 2) (v := .int (nI 0)) (C := RR) (T := TR) (N := 22) hx hb hz iR hown hK (hH.one hx0) 0 rfl rfl 0 (by decide) (hz _ zm_388) (fun _ h9 => h9) rfl dR_deliver_18 ?_
    refine zc_le0 (tgt := 26) hx hb dR_deliver_21 (by decide) (by decide) (fun b87 => ?_) (fun b87 => ?_)
    · refine lv_aload_n hx hb dR_deliver_26 rfl (lv_at hl 0 rfl) ?_
      refine va_get (D := G.1) (ci := 2) (v := .ref (z + 5)) (C := RR) (T := TR) (N := 22) hx hb hz iR hown hK (hH.one hx0) 0 rfl rfl 8 (by decide) (hz _ zm_396) (fun _ h9 => h9) rfl dR_deliver_27 ?_
      refine lv_iload_n hx hb dR_deliver_30 rfl (lv_at hl 1 rfl) ?_
      refine zw_iald hx hb hK hH 0 hrw rfl (j) rfl (by omega) (by decide) dR_deliver_31 ?_
      refine lv_istore_n (lv' := [(2, .int (nI (Y.rw j))), (0, .ref x), (1, .int (nI j))]) hx hb dR_deliver_32 rfl hl (by decide) rfl (fun ls hl => ?_)
      refine lv_aload_n hx hb dR_deliver_33 rfl (lv_at hl 1 rfl) ?_
      refine va_get (D := G.1) (ci := 2) (v := .ref (z + 9)) (C := RR) (T := TR) (N := 22) hx hb hz iR hown hK (hH.one hx0) 0 rfl rfl 13 (by decide) (hz _ zm_401) (fun _ h9 => h9) rfl dR_deliver_34 ?_
      refine lv_iload_n hx hb dR_deliver_37 rfl (lv_at hl 0 rfl) ?_
      refine zw_iald hx hb hK hH 0 hsi rfl (Y.rw j) rfl (hrb) (by decide) dR_deliver_38 ?_
      refine zw_ti (hsi0) ?_
      refine lv_istore_n (lv' := [(3, .int (-1)), (2, .int (nI (Y.rw j))), (0, .ref x), (1, .int (nI j))]) hx hb dR_deliver_39 rfl hl (by decide) rfl (fun ls hl => ?_)
      refine lv_aload_n hx hb dR_deliver_40 rfl (lv_at hl 2 rfl) ?_
      refine va_get (D := G.1) (ci := 2) (v := .ref (z + 8)) (C := RR) (T := TR) (N := 22) hx hb hz iR hown hK (hH.one hx0) 0 rfl rfl 12 (by decide) (hz _ zm_400) (fun _ h9 => h9) rfl dR_deliver_41 ?_
      refine lv_iload_n hx hb dR_deliver_44 rfl (lv_at hl 1 rfl) ?_
      refine zw_iald hx hb hK hH 0 hto rfl (Y.rw j) rfl (hrb) (by decide) dR_deliver_45 ?_
      refine zw_ti (m3) ?_
      refine lv_istore (lv' := [(4, .int (nI mg.rcv)), (3, .int (-1)), (2, .int (nI (Y.rw j))), (0, .ref x), (1, .int (nI j))]) hx hb dR_deliver_46 hl (by decide) rfl (fun ls hl => ?_)
      refine lv_aload_n hx hb dR_deliver_48 rfl (lv_at hl 3 rfl) ?_
      refine va_get (D := G.1) (ci := 2) (v := .ref (z + 7)) (C := RR) (T := TR) (N := 22) hx hb hz iR hown hK (hH.one hx0) 0 rfl rfl 11 (by decide) (hz _ zm_399) (fun _ h9 => h9) rfl dR_deliver_49 ?_
      refine lv_iload_n hx hb dR_deliver_52 rfl (lv_at hl 2 rfl) ?_
      refine zw_iald hx hb hK hH 0 hfr rfl (Y.rw j) rfl (hrb) (by decide) dR_deliver_53 ?_
      refine zw_ti (m2) ?_
      refine lv_istore (lv' := [(5, .int (nI mg.snd)), (4, .int (nI mg.rcv)), (3, .int (-1)), (2, .int (nI (Y.rw j))), (0, .ref x), (1, .int (nI j))]) hx hb dR_deliver_54 hl (by decide) rfl (fun ls hl => ?_)
      refine lv_aload_n hx hb dR_deliver_56 rfl (lv_at hl 4 rfl) ?_
      refine va_get (D := G.1) (ci := 2) (v := .ref (z + 10)) (C := RR) (T := TR) (N := 22) hx hb hz iR hown hK (hH.one hx0) 0 rfl rfl 14 (by decide) (hz _ zm_402) (fun _ h9 => h9) rfl dR_deliver_57 ?_
      refine lv_iload_n hx hb dR_deliver_60 rfl (lv_at hl 3 rfl) ?_
      refine zw_lald hx hb hK hH 1 hcl rfl (Y.rw j) rfl (hrb) (by decide) dR_deliver_61 ?_
      generalize hcv : Y.cl (Y.rw j) = cv0
      refine lv_lstore (lv' := [(6, .long cv0), (5, .int (nI mg.snd)), (4, .int (nI mg.rcv)), (3, .int (-1)), (2, .int (nI (Y.rw j))), (0, .ref x), (1, .int (nI j))]) hx hb dR_deliver_62 hl (by decide) rfl (fun ls hl => ?_)
      refine lv_iconst (v := nI 0) hx hb dR_deliver_64 (by decide) ?_
      refine lv_istore (lv' := [(8, .int (nI 0)), (6, .long cv0), (5, .int (nI mg.snd)), (4, .int (nI mg.rcv)), (3, .int (-1)), (2, .int (nI (Y.rw j))), (0, .ref x), (1, .int (nI j))]) hx hb dR_deliver_65 hl (by decide) rfl (fun ls hl => ?_)
      refine lv_iload hx hb dR_deliver_67 (lv_at hl 0 rfl) ?_
      refine lv_iload_n hx hb dR_deliver_69 rfl (lv_at hl 4 rfl) ?_
      refine lv_icmp_ge (tgt := 99) hx hb dR_deliver_70 (by decide) (fun _ => ?_) (fun h => absurd (by decide) h)
      have hfx : zrf x z M M1 := fun q h1 h2 => hkx q h1
      have hb1 := zbool (st.dn mg.rcv)
      have hok1 := hok.drop j
      refine lv_aload_n hx hb dR_deliver_99 rfl (lv_at hl 6 rfl) ?_
      refine lv_iload_n hx hb dR_deliver_100 rfl (lv_at hl 7 rfl) ?_
      refine zr_Vv (As := [.int (nI j)]) (rest := []) (q := (RR, TR, 22)) (mc := 0) (ms := 0) ⟨hx, hb, hml, hown, hz⟩ (kR_remove l G B M1 _ x z n mb st 0 pt Y hn hRn h120 j hj) (zt_V zm_495 zm_497 zs_21 zm_3 zm_498) rfl rfl rfl (show _ ∧ _ ∧ _ ∧ _ = some 1 from by decide +kernel) ⟨Nat.le_of_ble_eq_true rfl, Nat.le_of_ble_eq_true rfl⟩ zE_blind (zE_at hE hS) hH hK hx0 rfl rfl hS hl.1 rfl (Nat.le_of_ble_eq_true rfl) dR_deliver_101 ⟨Nat.le_of_ble_eq_true rfl, Nat.le_of_ble_eq_true rfl⟩ (fun M2 sz2 H2 L2 hp hH hz1 hz2 hS => ?_)
      obtain ⟨hR2, hfr2, hz3⟩ := hp
      have hfr2 : zrf x z _ M2 := hfr2
      have hR2 : zRR G M2 x z n mb (zdrop st j) 0 pt (zRX.mk (zre Y.rw j (st.fl.length - 1)) Y.nu Y.fr Y.to Y.si Y.cl Y.ins Y.part) := hR2
      have hsz : H2.size = sz := hz1.trans (hz3.trans hsz)
      have hx0 := hR2.obj
      have hdn := hR2.dn
      have hxz := hR2.xz
      refine lv_aload_n hx hb dR_deliver_104 rfl (lv_at hl 6 rfl) ?_
      refine va_get (D := G.1) (ci := 2) (v := .ref z) (C := RR) (T := TR) (N := 22) hx hb hz iR hown hK (hH.one hx0) 0 rfl rfl 3 (by decide) (hz _ zm_391) (fun _ h9 => h9) rfl dR_deliver_105 ?_
      refine lv_iload hx hb dR_deliver_108 (lv_at hl 3 rfl) ?_
      refine zw_zald hx hb hK hH 2 hdn rfl (mg.rcv) rfl (by have := hmo.2.1; omega) (by decide) dR_deliver_110 ?_
      refine zw_ti (show nI ((zdrop st j).dn mg.rcv).toNat = nI (st.dn mg.rcv).toNat from rfl) ?_
      refine zc_eq0 (tgt := 126) hx hb dR_deliver_111 (by decide) (by omega) (fun b8 => ?_) (fun b8 => ?_)
      · have hd : st.dn mg.rcv = false := by cases h9 : st.dn mg.rcv with | false => rfl | true => rw [h9] at b8; exact absurd b8 (by decide)
        refine lv_iload_n hx hb dR_deliver_126 rfl (lv_at hl 4 rfl) ?_
        refine lv_if_ge (tgt := 143) hx hb dR_deliver_127 (by decide) (fun h => absurd h (by decide)) (fun _ => ?_)
        refine lv_aload_n hx hb dR_deliver_130 rfl (lv_at hl 6 rfl) ?_
        refine lv_iload hx hb dR_deliver_131 (lv_at hl 3 rfl) ?_
        refine lv_iload hx hb dR_deliver_133 (lv_at hl 2 rfl) ?_
        refine lv_lload hx hb dR_deliver_135 (lv_at hl 1 rfl) ?_
        refine zr_Vi (As := [.int (nI mg.rcv), .int (nI mg.snd), .long cv0]) (rest := []) (q := (RR, TR, 22)) (mc := 0) (ms := 0) ⟨hx, hb, hml, hown, hz⟩ (kR_answer l G B M2 _ x z n mb (zdrop st j) 0 pt _ hn hR2 hok1 mg.rcv mg.snd cv0 hmo.2.1 hmo.1 hmb) (zt_V zm_499 zm_501 zs_22 zm_3 zm_502) rfl rfl rfl (show _ ∧ _ ∧ _ ∧ _ = some 3 from by decide +kernel) ⟨Nat.le_of_ble_eq_true rfl, Nat.le_of_ble_eq_true rfl⟩ zE_blind (zE_at hE hS) hH hK hx0 rfl rfl hS hl.1 rfl (Nat.le_of_ble_eq_true rfl) dR_deliver_137 ⟨Nat.le_of_ble_eq_true rfl, Nat.le_of_ble_eq_true rfl⟩ (fun r3 M3 sz3 H3 L3 hp hH hz1 hz2 hS => ?_)
        obtain ⟨rfl, hR3, hfr3, hz4⟩ := hp
        have hsz : H3.size = sz := hz1.trans (hz4.trans hsz)
        refine lv_goto (tgt := 150) hx hb dR_deliver_140 (by decide) ?_
        have hD : zdeliver st j mg mb = zanswer (zdrop st j) mg.rcv mg.snd cv0 mb := by unfold zdeliver; rw [if_neg (by rw [hd]; decide), hk, ← hcv, m5 k hk]
        rw [hD]
        exact W.iret (v := (nI (zanswer (zdrop st j) mg.rcv mg.snd cv0 mb).2)) hx hb hr (fun t ht hW => ⟨⟨(nI (zanswer (zdrop st j) mg.rcv mg.snd cv0 mb).2), (M3, sz), rfl, ⟨rfl, hR3, (hfx.tr hfr2).tr hfr3, rfl⟩, by rw [ht]; exact hH, by rw [ht]; exact hsz⟩, hS.F ht⟩) hS.2.2 dR_deliver_150
      · refine lv_aload_n hx hb dR_deliver_114 rfl (lv_at hl 6 rfl) ?_
        refine lv_dup hx hb dR_deliver_115 rfl ?_
        refine va_get (D := G.1) (ci := 2) (v := .int (nI ((zdrop st j).go))) (C := RR) (T := TR) (N := 22) hx hb hz iR hown hK (hH.one hx0) 0 rfl rfl 18 (by decide) (hz _ zm_406) (fun _ h9 => h9) rfl dR_deliver_116 ?_
        refine lv_iconst (v := nI 1) hx hb dR_deliver_119 (by decide) ?_
        refine lv_iadd hx hb dR_deliver_120 ?_
        refine zw_ti (nI_add _ _) ?_
        refine zw_put (D := G.1) (ci := 2) (v := .int (nI (((zdrop st j).go) + 1))) (ty := .int) (C := RR) (T := TR) (N := 22) hx hb hz iR tR tR_ok nR hown hK hH hS hx0 rfl 18 (by decide) (hz _ zm_406) (fun _ h9 => h9) rfl (by decide +kernel) rfl rfl (Nat.le_of_ble_eq_true rfl) dR_deliver_121 (fun H3 L3 hH hz1 hS => ?_)
        have hsz : H3.size = sz := hz1.trans hsz
        obtain ⟨M3, hM3⟩ : ∃ Mq, Mq = zw_u M2 x (.inr (2, zoR 0 n mb z ((zdrop st j).fl.length) ((zdrop st j).se) ((zdrop st j).lo) (((zdrop st j).go) + 1) ((zdrop st j).pa) pt)) := ⟨_, rfl⟩
        have hH : zw_H G.1 zCl B M3 H3 := by rw [hM3]; exact hH
        have hdn : M3 z = some (.inl (G.2.1 2, 8, .inl (fun a9 => nI ((zdrop st j).dn a9).toNat))) := by rw [hM3, zw_un _ _ (by omega)]; exact hdn
        have hx0 : M3 x = some (.inr (2, zoR 0 n mb z ((zdrop st j).fl.length) ((zdrop st j).se) ((zdrop st j).lo) (((zdrop st j).go) + 1) ((zdrop st j).pa) pt)) := by rw [hM3]; exact zw_us _ _ _
        have hkf : ∀ a : Nat, a ≠ x → M3 a = M2 a := fun a h1 => by rw [hM3, zw_un _ _ h1]
        refine lv_iconst (v := nI 0) hx hb dR_deliver_124 (by decide) ?_
        have hD : zdeliver st j mg mb = (zgone (zdrop st j), 0) := if_pos (by cases h9 : st.dn mg.rcv with | true => rfl | false => exact absurd (by rw [h9]; rfl) b8)
        rw [hD]
        exact W.iret (v := (nI 0)) hx hb hr (fun t ht hW => ⟨⟨(nI 0), (M3, sz), rfl, ⟨rfl, ⟨pt, _, hR2.cnt (st' := zgone (zdrop st j)) rfl rfl rfl rfl hx0 (fun a e h1 h2 => (hkf a h1).trans h2)⟩, fun q h1 h2 => (hkf q h1).trans ((hfx.tr hfr2) q h1 h2), rfl⟩, by rw [ht]; exact hH, by rw [ht]; exact hsz⟩, hS.F ht⟩) hS.2.2 dR_deliver_125
    · exact absurd b87 (by decide)

set_option maxHeartbeats 4000000 in
set_option maxRecDepth 100000 in
theorem kR_deliver_part (l : Launch) (G : zG) (B : Nat) (M : zw_M) (sz : Nat) (x z n mb : Nat) (st : zSt) (th pt : Nat) (Y : zRX) (hn : n ≤ 8) (hR : zRR G M x z n mb st th pt Y) (hok : zOK n st) (h120 : st.fl.length ≤ 120) (j : Nat) (hj : j < st.fl.length) (mg : zMg) (hmg : st.fl[j]? = some mg) (hk : mg.ck = none) : Met l yR_deliver (Cond.code yR_deliver bR_deliver 9 (some .int) :: zT) { frames := 2, cells := 0, slots := 0, locals := 60 } (zq G B M sz [.ref x, .int (nI j)]) (va_Qi (fun (r : Int32) (u : zw_M × Nat) => r = nI (zdeliver st j mg mb).2 ∧ zRO G x z n mb sz M ((zdeliver st j mg mb).1) 0 u) (zr_o G.1 zCl B) (zw_A B)) (0) (0) (zw_A B) := by
  refine Met.ofW (cc := bR_deliver) (maxL := 9) (ret := (some .int)) (by decide) rfl ?_
  intro p e s m args below meth c s₁ B0 hml hv
  obtain ⟨rfl, hE, hH, hsz⟩ := hv
  have hx := B0.exec
  have hb := B0.bytes
  have hr := B0.returns
  have hlocks := B0.notSynchronized
  have hz : ∀ w ∈ zT, w.before _ s = true := fun w h => atoms_spec (ws := Cond.code yR_deliver bR_deliver 9 (some .int) :: zT) B0.pre w (List.mem_cons_of_mem _ h)
  have hown : s.vm.findClass RR = some m.cls := findClass_of_methodNamed B0.named
  have hK := hE.1
  have hl := lv_entry ([.ref x, .int (nI j)]) (n := 9) (Nat.le_of_ble_eq_true rfl)
  rw [lg_entry_eq]
  generalize (lg_sl ([.ref x, .int (nI j)]) ++ List.replicate (9 - (lg_sl ([.ref x, .int (nI j)])).length) Slot.unset).toArray = ls at hl ⊢
  have hl : lv_has ls 9 [(0, .ref x), (1, .int (nI j))] := hl
  have hS : va_S (zw_A B) s.heap s.heap [] := va_S.rf
  have hin : meth.name = "deliver" := (name_of_methodNamed B0.named B0.method).1
  obtain ⟨m1, m2, m3, m4, m5, m6⟩ := hR.msg j mg hmg
  have hrb := hR.rwb j (by omega)
  have hmo := hok.msg (List.mem_of_getElem? hmg)
  have hl4 := zOK.chs hok mg (List.mem_of_getElem? hmg)
  have hsi0 : Y.si (Y.rw j) = nI mg.chs.length := by rw [m4, hk]; rfl
  have hm3 := hmo.2.2
  rw [hk] at hm3
  have hx0 := hR.obj
  have hdn := hR.dn
  have hrw := hR.rw
  have hfr := hR.fr
  have hto := hR.to
  have hsi := hR.si
  have hcl := hR.cl
  have hins := hR.ins
  have hpart := hR.part
  have hxz := hR.xz
  refine lv_aload_n hx hb dR_deliver_0 rfl (lv_at hl 0 rfl) ?_
  refine lv_aload_n hx hb dR_deliver_1 rfl (lv_at hl 0 rfl) ?_
  refine lv_iload_n hx hb dR_deliver_2 rfl (lv_at hl 1 rfl) ?_
  refine zr_V (As := [.int (nI j)]) (rest := [.ref x]) (q := (RR, TR, 22)) ⟨hx, hb, hml, hown, hz⟩ (kR_isMessage_in l G B M x z n mb st th pt Y hn hR h120 j hj) (zt_V zm_491 zm_493 zs_20 zm_3 zm_494) rfl rfl rfl (show _ ∧ _ ∧ _ ∧ _ = some 1 from by decide +kernel) ⟨Nat.le_of_ble_eq_true rfl, Nat.le_of_ble_eq_true rfl⟩ zE_blind (zE_at hE hS) hH hK hx0 rfl rfl hl.1 rfl (Nat.le_of_ble_eq_true rfl) dR_deliver_3 ⟨Nat.le_of_ble_eq_true rfl, Nat.le_of_ble_eq_true rfl⟩ ?_
  refine zc_eq0 (tgt := 13) hx hb dR_deliver_6 (by decide) (by decide) (fun b88 => ?_) (fun b88 => ?_)
  · exact absurd b88 (by decide)
  · refine lv_iconst (v := nI 0) hx hb dR_deliver_9 (by decide) ?_
    refine lv_goto (tgt := 14) hx hb dR_deliver_10 (by decide) ?_
    refine zw_put (D := G.1) (ci := 2) (v := .int (nI 0)) (ty := .int) (C := RR) (T := TR) (N := 22) hx hb hz iR tR tR_ok nR hown hK hH hS hx0 rfl 0 (by decide) (hz _ zm_388) (fun _ h9 => h9) rfl (by decide +kernel) rfl rfl (Nat.le_of_ble_eq_true rfl) dR_deliver_14 (fun H1 L1 hH hz1 hS => ?_)
    have hsz : H1.size = sz := hz1.trans hsz
    obtain ⟨M1, hM1⟩ : ∃ Mq, Mq = zw_u M x (.inr (2, zoR 0 n mb z st.fl.length st.se st.lo st.go st.pa pt)) := ⟨_, rfl⟩
    have hH : zw_H G.1 zCl B M1 H1 := by rw [hM1]; exact hH
    have hdn : M1 z = some (.inl (G.2.1 2, 8, .inl (fun a9 => nI (st.dn a9).toNat))) := by rw [hM1, zw_un _ _ (by omega)]; exact hdn
    have hrw : M1 (z + 5) = some (.inl (G.2.1 0, 120, .inl (fun a9 => nI (Y.rw a9)))) := by rw [hM1, zw_un _ _ (by omega)]; exact hrw
    have hfr : M1 (z + 7) = some (.inl (G.2.1 0, 120, .inl Y.fr)) := by rw [hM1, zw_un _ _ (by omega)]; exact hfr
    have hto : M1 (z + 8) = some (.inl (G.2.1 0, 120, .inl Y.to)) := by rw [hM1, zw_un _ _ (by omega)]; exact hto
    have hsi : M1 (z + 9) = some (.inl (G.2.1 0, 120, .inl Y.si)) := by rw [hM1, zw_un _ _ (by omega)]; exact hsi
    have hcl : M1 (z + 10) = some (.inl (G.2.1 1, 120, .inr (.inl Y.cl))) := by rw [hM1, zw_un _ _ (by omega)]; exact hcl
    have hins : M1 (z + 11) = some (.inl (G.2.1 0, 57600, .inl Y.ins)) := by rw [hM1, zw_un _ _ (by omega)]; exact hins
    have hpart : M1 (z + 12) = some (.inl (G.2.1 0, 480, .inl Y.part)) := by rw [hM1, zw_un _ _ (by omega)]; exact hpart
    have hx0 : M1 x = some (.inr (2, zoR 0 n mb z st.fl.length st.se st.lo st.go st.pa pt)) := by rw [hM1]; exact zw_us _ _ _
    have hkx : ∀ a : Nat, a ≠ x → M1 a = M a := fun a h1 => by rw [hM1, zw_un _ _ h1]
    have hRn : zRR G M1 x z n mb st 0 pt Y := hR.cnt (st' := st) rfl rfl rfl rfl hx0 (fun a e h1 h2 => (hkx a h1).trans h2)
    refine lv_aload_n hx hb dR_deliver_17 rfl (lv_at hl 0 rfl) ?_
    refine va_get (D := G.1) (ci := 2) (v := .int (nI 0)) (C := RR) (T := TR) (N := 22) hx hb hz iR hown hK (hH.one hx0) 0 rfl rfl 0 (by decide) (hz _ zm_388) (fun _ h9 => h9) rfl dR_deliver_18 ?_
    refine zc_le0 (tgt := 26) hx hb dR_deliver_21 (by decide) (by decide) (fun b89 => ?_) (fun b89 => ?_)
    · refine lv_aload_n hx hb dR_deliver_26 rfl (lv_at hl 0 rfl) ?_
      refine va_get (D := G.1) (ci := 2) (v := .ref (z + 5)) (C := RR) (T := TR) (N := 22) hx hb hz iR hown hK (hH.one hx0) 0 rfl rfl 8 (by decide) (hz _ zm_396) (fun _ h9 => h9) rfl dR_deliver_27 ?_
      refine lv_iload_n hx hb dR_deliver_30 rfl (lv_at hl 1 rfl) ?_
      refine zw_iald hx hb hK hH 0 hrw rfl (j) rfl (by omega) (by decide) dR_deliver_31 ?_
      refine lv_istore_n (lv' := [(2, .int (nI (Y.rw j))), (0, .ref x), (1, .int (nI j))]) hx hb dR_deliver_32 rfl hl (by decide) rfl (fun ls hl => ?_)
      refine lv_aload_n hx hb dR_deliver_33 rfl (lv_at hl 1 rfl) ?_
      refine va_get (D := G.1) (ci := 2) (v := .ref (z + 9)) (C := RR) (T := TR) (N := 22) hx hb hz iR hown hK (hH.one hx0) 0 rfl rfl 13 (by decide) (hz _ zm_401) (fun _ h9 => h9) rfl dR_deliver_34 ?_
      refine lv_iload_n hx hb dR_deliver_37 rfl (lv_at hl 0 rfl) ?_
      refine zw_iald hx hb hK hH 0 hsi rfl (Y.rw j) rfl (hrb) (by decide) dR_deliver_38 ?_
      refine zw_ti (hsi0) ?_
      refine lv_istore_n (lv' := [(3, .int (nI mg.chs.length)), (2, .int (nI (Y.rw j))), (0, .ref x), (1, .int (nI j))]) hx hb dR_deliver_39 rfl hl (by decide) rfl (fun ls hl => ?_)
      refine lv_aload_n hx hb dR_deliver_40 rfl (lv_at hl 2 rfl) ?_
      refine va_get (D := G.1) (ci := 2) (v := .ref (z + 8)) (C := RR) (T := TR) (N := 22) hx hb hz iR hown hK (hH.one hx0) 0 rfl rfl 12 (by decide) (hz _ zm_400) (fun _ h9 => h9) rfl dR_deliver_41 ?_
      refine lv_iload_n hx hb dR_deliver_44 rfl (lv_at hl 1 rfl) ?_
      refine zw_iald hx hb hK hH 0 hto rfl (Y.rw j) rfl (hrb) (by decide) dR_deliver_45 ?_
      refine zw_ti (m3) ?_
      refine lv_istore (lv' := [(4, .int (nI mg.rcv)), (3, .int (nI mg.chs.length)), (2, .int (nI (Y.rw j))), (0, .ref x), (1, .int (nI j))]) hx hb dR_deliver_46 hl (by decide) rfl (fun ls hl => ?_)
      refine lv_aload_n hx hb dR_deliver_48 rfl (lv_at hl 3 rfl) ?_
      refine va_get (D := G.1) (ci := 2) (v := .ref (z + 7)) (C := RR) (T := TR) (N := 22) hx hb hz iR hown hK (hH.one hx0) 0 rfl rfl 11 (by decide) (hz _ zm_399) (fun _ h9 => h9) rfl dR_deliver_49 ?_
      refine lv_iload_n hx hb dR_deliver_52 rfl (lv_at hl 2 rfl) ?_
      refine zw_iald hx hb hK hH 0 hfr rfl (Y.rw j) rfl (hrb) (by decide) dR_deliver_53 ?_
      refine zw_ti (m2) ?_
      refine lv_istore (lv' := [(5, .int (nI mg.snd)), (4, .int (nI mg.rcv)), (3, .int (nI mg.chs.length)), (2, .int (nI (Y.rw j))), (0, .ref x), (1, .int (nI j))]) hx hb dR_deliver_54 hl (by decide) rfl (fun ls hl => ?_)
      refine lv_aload_n hx hb dR_deliver_56 rfl (lv_at hl 4 rfl) ?_
      refine va_get (D := G.1) (ci := 2) (v := .ref (z + 10)) (C := RR) (T := TR) (N := 22) hx hb hz iR hown hK (hH.one hx0) 0 rfl rfl 14 (by decide) (hz _ zm_402) (fun _ h9 => h9) rfl dR_deliver_57 ?_
      refine lv_iload_n hx hb dR_deliver_60 rfl (lv_at hl 3 rfl) ?_
      refine zw_lald hx hb hK hH 1 hcl rfl (Y.rw j) rfl (hrb) (by decide) dR_deliver_61 ?_
      generalize hcv : Y.cl (Y.rw j) = cv0
      refine lv_lstore (lv' := [(6, .long cv0), (5, .int (nI mg.snd)), (4, .int (nI mg.rcv)), (3, .int (nI mg.chs.length)), (2, .int (nI (Y.rw j))), (0, .ref x), (1, .int (nI j))]) hx hb dR_deliver_62 hl (by decide) rfl (fun ls hl => ?_)
      refine lv_iconst (v := nI 0) hx hb dR_deliver_64 (by decide) ?_
      refine lv_istore (lv' := [(8, .int (nI 0)), (6, .long cv0), (5, .int (nI mg.snd)), (4, .int (nI mg.rcv)), (3, .int (nI mg.chs.length)), (2, .int (nI (Y.rw j))), (0, .ref x), (1, .int (nI j))]) hx hb dR_deliver_65 hl (by decide) rfl (fun ls hl => ?_)
      refine zl_upH (Wg := fun ls H locs => W p l e _ s m _ below meth c H locs 0 0 _ (F0 m 67 ls [])) (fun i ls H locs => lv_has ls 9 [(0, .ref x), (1, .int (nI j)), (2, .int (nI (Y.rw j))), (3, .int (nI mg.chs.length)), (4, .int (nI mg.rcv)), (5, .int (nI mg.snd)), (6, .long cv0), (8, .int (nI i))] ∧ ∃ Mq : zw_M, zw_H G.1 zCl B Mq H ∧ va_S (zw_A B) s.heap H locs ∧ Mq = zw_u M1 (z + 12) (.inl (G.2.1 0, 480, .inl (zcp Y.part (fun q => Y.ins (480 * Y.rw j + q)) 0 i))) ∧ H.size = sz) mg.chs.length ?_ (i := 0) (by omega) ⟨lv_sub hl [6, 7, 5, 4, 3, 2, 1, 0] rfl, M1, hH, hS, ⟨by rw [zcp_0, zw_ui hpart], hsz⟩⟩
      intro i hi ls Hi Li ⟨hl, Mi, hH, hS, hI⟩ ih
      have hl : lv_has ls 9 [(0, .ref x), (1, .int (nI j)), (2, .int (nI (Y.rw j))), (3, .int (nI mg.chs.length)), (4, .int (nI mg.rcv)), (5, .int (nI mg.snd)), (6, .long cv0), (8, .int (nI i))] := hl
      obtain ⟨hMi, hsz⟩ := hI
      have hx0 : Mi x = some (.inr (2, zoR 0 n mb z st.fl.length st.se st.lo st.go st.pa pt)) := by rw [hMi, zw_un _ _ (by omega)]; exact hx0
      have hdn : Mi z = some (.inl (G.2.1 2, 8, .inl (fun a9 => nI (st.dn a9).toNat))) := by rw [hMi, zw_un _ _ (by omega)]; exact hdn
      have hrw : Mi (z + 5) = some (.inl (G.2.1 0, 120, .inl (fun a9 => nI (Y.rw a9)))) := by rw [hMi, zw_un _ _ (by omega)]; exact hrw
      have hfr : Mi (z + 7) = some (.inl (G.2.1 0, 120, .inl Y.fr)) := by rw [hMi, zw_un _ _ (by omega)]; exact hfr
      have hto : Mi (z + 8) = some (.inl (G.2.1 0, 120, .inl Y.to)) := by rw [hMi, zw_un _ _ (by omega)]; exact hto
      have hsi : Mi (z + 9) = some (.inl (G.2.1 0, 120, .inl Y.si)) := by rw [hMi, zw_un _ _ (by omega)]; exact hsi
      have hcl : Mi (z + 10) = some (.inl (G.2.1 1, 120, .inr (.inl Y.cl))) := by rw [hMi, zw_un _ _ (by omega)]; exact hcl
      have hins : Mi (z + 11) = some (.inl (G.2.1 0, 57600, .inl Y.ins)) := by rw [hMi, zw_un _ _ (by omega)]; exact hins
      have hpart : Mi (z + 12) = some (.inl (G.2.1 0, 480, .inl (zcp Y.part (fun q => Y.ins (480 * Y.rw j + q)) 0 i))) := by rw [hMi]; exact zw_us _ _ _
      refine lv_iload hx hb dR_deliver_67 (lv_at hl 7 rfl) ?_
      refine lv_iload_n hx hb dR_deliver_69 rfl (lv_at hl 3 rfl) ?_
      refine zc_ge (tgt := 99) hx hb dR_deliver_70 (by decide) (by omega) (by omega) (fun b7 => ?_) (fun b7 => ?_)
      · have e1 : mg.chs.length = i := by omega
        rw [← e1] at hpart
        have hRp : zRR G Mi x z n mb st 0 pt (zRX.mk Y.rw Y.nu Y.fr Y.to Y.si Y.cl Y.ins (zcp Y.part (fun q => Y.ins (480 * Y.rw j + q)) 0 mg.chs.length)) := hRn.prt (fun a e h1 h2 => by rw [hMi, zw_un _ _ h1]; exact h2) hpart
        have hfi : zrf x z M Mi := fun q h1 h2 => by rw [hMi, zw_un _ _ (by omega)]; exact hkx q h1
        have hpc : ∀ k, k < mg.chs.length → zcp Y.part (fun q => Y.ins (480 * Y.rw j + q)) 0 mg.chs.length k = nI (mg.chs.getD k 0) := fun k hk => by have h9 := zcp_in Y.part (fun q => Y.ins (480 * Y.rw j + q)) (b := 0) hk; rw [Nat.zero_add] at h9; rw [h9]; exact m6 k hk
        have hb1 := zbool (st.dn mg.rcv)
        have hok1 := hok.drop j
        refine lv_aload_n hx hb dR_deliver_99 rfl (lv_at hl 0 rfl) ?_
        refine lv_iload_n hx hb dR_deliver_100 rfl (lv_at hl 1 rfl) ?_
        refine zr_Vv (As := [.int (nI j)]) (rest := []) (q := (RR, TR, 22)) (mc := 0) (ms := 0) ⟨hx, hb, hml, hown, hz⟩ (kR_remove l G B Mi _ x z n mb st 0 pt (zRX.mk Y.rw Y.nu Y.fr Y.to Y.si Y.cl Y.ins (zcp Y.part (fun q => Y.ins (480 * Y.rw j + q)) 0 mg.chs.length)) hn hRp h120 j hj) (zt_V zm_495 zm_497 zs_21 zm_3 zm_498) rfl rfl rfl (show _ ∧ _ ∧ _ ∧ _ = some 1 from by decide +kernel) ⟨Nat.le_of_ble_eq_true rfl, Nat.le_of_ble_eq_true rfl⟩ zE_blind (zE_at hE hS) hH hK hx0 rfl rfl hS hl.1 rfl (Nat.le_of_ble_eq_true rfl) dR_deliver_101 ⟨Nat.le_of_ble_eq_true rfl, Nat.le_of_ble_eq_true rfl⟩ (fun M2 sz2 H2 L2 hp hH hz1 hz2 hS => ?_)
        obtain ⟨hR2, hfr2, hz3⟩ := hp
        have hfr2 : zrf x z _ M2 := hfr2
        have hR2 : zRR G M2 x z n mb (zdrop st j) 0 pt (zRX.mk (zre (zRX.mk Y.rw Y.nu Y.fr Y.to Y.si Y.cl Y.ins (zcp Y.part (fun q => Y.ins (480 * Y.rw j + q)) 0 mg.chs.length)).rw j (st.fl.length - 1)) (zRX.mk Y.rw Y.nu Y.fr Y.to Y.si Y.cl Y.ins (zcp Y.part (fun q => Y.ins (480 * Y.rw j + q)) 0 mg.chs.length)).nu (zRX.mk Y.rw Y.nu Y.fr Y.to Y.si Y.cl Y.ins (zcp Y.part (fun q => Y.ins (480 * Y.rw j + q)) 0 mg.chs.length)).fr (zRX.mk Y.rw Y.nu Y.fr Y.to Y.si Y.cl Y.ins (zcp Y.part (fun q => Y.ins (480 * Y.rw j + q)) 0 mg.chs.length)).to (zRX.mk Y.rw Y.nu Y.fr Y.to Y.si Y.cl Y.ins (zcp Y.part (fun q => Y.ins (480 * Y.rw j + q)) 0 mg.chs.length)).si (zRX.mk Y.rw Y.nu Y.fr Y.to Y.si Y.cl Y.ins (zcp Y.part (fun q => Y.ins (480 * Y.rw j + q)) 0 mg.chs.length)).cl (zRX.mk Y.rw Y.nu Y.fr Y.to Y.si Y.cl Y.ins (zcp Y.part (fun q => Y.ins (480 * Y.rw j + q)) 0 mg.chs.length)).ins (zRX.mk Y.rw Y.nu Y.fr Y.to Y.si Y.cl Y.ins (zcp Y.part (fun q => Y.ins (480 * Y.rw j + q)) 0 mg.chs.length)).part) := hR2
        have hsz : H2.size = sz := hz1.trans (hz3.trans hsz)
        have hx0 := hR2.obj
        have hdn := hR2.dn
        have hxz := hR2.xz
        refine lv_aload_n hx hb dR_deliver_104 rfl (lv_at hl 0 rfl) ?_
        refine va_get (D := G.1) (ci := 2) (v := .ref z) (C := RR) (T := TR) (N := 22) hx hb hz iR hown hK (hH.one hx0) 0 rfl rfl 3 (by decide) (hz _ zm_391) (fun _ h9 => h9) rfl dR_deliver_105 ?_
        refine lv_iload hx hb dR_deliver_108 (lv_at hl 4 rfl) ?_
        refine zw_zald hx hb hK hH 2 hdn rfl (mg.rcv) rfl (by have := hmo.2.1; omega) (by decide) dR_deliver_110 ?_
        refine zw_ti (show nI ((zdrop st j).dn mg.rcv).toNat = nI (st.dn mg.rcv).toNat from rfl) ?_
        refine zc_eq0 (tgt := 126) hx hb dR_deliver_111 (by decide) (by omega) (fun b8 => ?_) (fun b8 => ?_)
        · have hd : st.dn mg.rcv = false := by cases h9 : st.dn mg.rcv with | false => rfl | true => rw [h9] at b8; exact absurd b8 (by decide)
          refine lv_iload_n hx hb dR_deliver_126 rfl (lv_at hl 3 rfl) ?_
          refine zc_ge0 (tgt := 143) hx hb dR_deliver_127 (by decide) (by omega) ?_
          refine lv_aload_n hx hb dR_deliver_143 rfl (lv_at hl 0 rfl) ?_
          refine lv_iload hx hb dR_deliver_144 (lv_at hl 4 rfl) ?_
          refine lv_iload_n hx hb dR_deliver_146 rfl (lv_at hl 3 rfl) ?_
          refine zr_Vi (As := [.int (nI mg.rcv), .int (nI mg.chs.length)]) (rest := []) (q := (RR, TR, 22)) (mc := 0) (ms := 0) ⟨hx, hb, hml, hown, hz⟩ (kR_take l G B M2 _ x z n mb (zdrop st j) 0 pt _ hn hR2 hok1 mg.rcv hmo.2.1 mg.chs hpc hm3.2.2.1 hl4) (zt_V zm_508 zm_510 zs_24 zm_3 zm_511) rfl rfl rfl (show _ ∧ _ ∧ _ ∧ _ = some 2 from by decide +kernel) ⟨Nat.le_of_ble_eq_true rfl, Nat.le_of_ble_eq_true rfl⟩ zE_blind (zE_at hE hS) hH hK hx0 rfl rfl hS hl.1 rfl (Nat.le_of_ble_eq_true rfl) dR_deliver_147 ⟨Nat.le_of_ble_eq_true rfl, Nat.le_of_ble_eq_true rfl⟩ (fun r3 M3 sz3 H3 L3 hp hH hz1 hz2 hS => ?_)
          obtain ⟨rfl, hR3, hfr3, hz4⟩ := hp
          have hsz : H3.size = sz := hz1.trans (hz4.trans hsz)
          have hD : zdeliver st j mg mb = mg.chs.foldl (zta mg.rcv) (zdrop st j, 0) := by unfold zdeliver; rw [if_neg (by rw [hd]; decide), hk]
          rw [hD]
          exact W.iret (v := (nI (mg.chs.foldl (zta mg.rcv) (zdrop st j, 0)).2)) hx hb hr (fun t ht hW => ⟨⟨(nI (mg.chs.foldl (zta mg.rcv) (zdrop st j, 0)).2), (M3, sz), rfl, ⟨rfl, ⟨pt, _, hR3⟩, (hfi.tr hfr2).tr hfr3, rfl⟩, by rw [ht]; exact hH, by rw [ht]; exact hsz⟩, hS.F ht⟩) hS.2.2 dR_deliver_150
        · refine lv_aload_n hx hb dR_deliver_114 rfl (lv_at hl 0 rfl) ?_
          refine lv_dup hx hb dR_deliver_115 rfl ?_
          refine va_get (D := G.1) (ci := 2) (v := .int (nI ((zdrop st j).go))) (C := RR) (T := TR) (N := 22) hx hb hz iR hown hK (hH.one hx0) 0 rfl rfl 18 (by decide) (hz _ zm_406) (fun _ h9 => h9) rfl dR_deliver_116 ?_
          refine lv_iconst (v := nI 1) hx hb dR_deliver_119 (by decide) ?_
          refine lv_iadd hx hb dR_deliver_120 ?_
          refine zw_ti (nI_add _ _) ?_
          refine zw_put (D := G.1) (ci := 2) (v := .int (nI (((zdrop st j).go) + 1))) (ty := .int) (C := RR) (T := TR) (N := 22) hx hb hz iR tR tR_ok nR hown hK hH hS hx0 rfl 18 (by decide) (hz _ zm_406) (fun _ h9 => h9) rfl (by decide +kernel) rfl rfl (Nat.le_of_ble_eq_true rfl) dR_deliver_121 (fun H3 L3 hH hz1 hS => ?_)
          have hsz : H3.size = sz := hz1.trans hsz
          obtain ⟨M3, hM3⟩ : ∃ Mq, Mq = zw_u M2 x (.inr (2, zoR 0 n mb z ((zdrop st j).fl.length) ((zdrop st j).se) ((zdrop st j).lo) (((zdrop st j).go) + 1) ((zdrop st j).pa) pt)) := ⟨_, rfl⟩
          have hH : zw_H G.1 zCl B M3 H3 := by rw [hM3]; exact hH
          have hdn : M3 z = some (.inl (G.2.1 2, 8, .inl (fun a9 => nI ((zdrop st j).dn a9).toNat))) := by rw [hM3, zw_un _ _ (by omega)]; exact hdn
          have hx0 : M3 x = some (.inr (2, zoR 0 n mb z ((zdrop st j).fl.length) ((zdrop st j).se) ((zdrop st j).lo) (((zdrop st j).go) + 1) ((zdrop st j).pa) pt)) := by rw [hM3]; exact zw_us _ _ _
          have hkf : ∀ a : Nat, a ≠ x → M3 a = M2 a := fun a h1 => by rw [hM3, zw_un _ _ h1]
          refine lv_iconst (v := nI 0) hx hb dR_deliver_124 (by decide) ?_
          have hD : zdeliver st j mg mb = (zgone (zdrop st j), 0) := if_pos (by cases h9 : st.dn mg.rcv with | true => rfl | false => exact absurd (by rw [h9]; rfl) b8)
          rw [hD]
          exact W.iret (v := (nI 0)) hx hb hr (fun t ht hW => ⟨⟨(nI 0), (M3, sz), rfl, ⟨rfl, ⟨pt, _, hR2.cnt (st' := zgone (zdrop st j)) rfl rfl rfl rfl hx0 (fun a e h1 h2 => (hkf a h1).trans h2)⟩, fun q h1 h2 => (hkf q h1).trans ((hfi.tr hfr2) q h1 h2), rfl⟩, by rw [ht]; exact hH, by rw [ht]; exact hsz⟩, hS.F ht⟩) hS.2.2 dR_deliver_125
      · refine lv_aload_n hx hb dR_deliver_73 rfl (lv_at hl 0 rfl) ?_
        refine va_get (D := G.1) (ci := 2) (v := .ref (z + 12)) (C := RR) (T := TR) (N := 22) hx hb hz iR hown hK (hH.one hx0) 0 rfl rfl 20 (by decide) (hz _ zm_408) (fun _ h9 => h9) rfl dR_deliver_74 ?_
        refine lv_iload hx hb dR_deliver_77 (lv_at hl 7 rfl) ?_
        refine lv_aload_n hx hb dR_deliver_79 rfl (lv_at hl 0 rfl) ?_
        refine va_get (D := G.1) (ci := 2) (v := .ref (z + 11)) (C := RR) (T := TR) (N := 22) hx hb hz iR hown hK (hH.one hx0) 0 rfl rfl 15 (by decide) (hz _ zm_403) (fun _ h9 => h9) rfl dR_deliver_80 ?_
        refine lv_sipush (v := nI 480) hx hb dR_deliver_83 (by decide) ?_
        refine lv_iload_n hx hb dR_deliver_86 rfl (lv_at hl 2 rfl) ?_
        refine lv_imul hx hb dR_deliver_87 ?_
        refine zw_ti (pk_mul _ _) ?_
        refine lv_iload hx hb dR_deliver_88 (lv_at hl 7 rfl) ?_
        refine lv_iadd hx hb dR_deliver_90 ?_
        refine zw_ti (nI_add _ _) ?_
        refine zw_iald hx hb hK hH 0 hins rfl (480 * Y.rw j + i) rfl (by omega) (by decide) dR_deliver_91 ?_
        refine zw_iast hx hb hK hH hS 0 hpart rfl (i) rfl (by omega) (by decide) dR_deliver_92 (fun H2 L2 hH hz1 hS => ?_)
        have hsz : H2.size = sz := hz1.trans hsz
        obtain ⟨M2, hM2⟩ : ∃ Mq, Mq = zw_u Mi (z + 12) (.inl (G.2.1 0, 480, .inl (upd (zcp Y.part (fun q => Y.ins (480 * Y.rw j + q)) 0 i) i (Y.ins (480 * Y.rw j + i))))) := ⟨_, rfl⟩
        have hH : zw_H G.1 zCl B M2 H2 := by rw [hM2]; exact hH
        have hx0 : M2 x = some (.inr (2, zoR 0 n mb z st.fl.length st.se st.lo st.go st.pa pt)) := by rw [hM2, zw_un _ _ (by omega)]; exact hx0
        have hdn : M2 z = some (.inl (G.2.1 2, 8, .inl (fun a9 => nI (st.dn a9).toNat))) := by rw [hM2, zw_un _ _ (by omega)]; exact hdn
        have hrw : M2 (z + 5) = some (.inl (G.2.1 0, 120, .inl (fun a9 => nI (Y.rw a9)))) := by rw [hM2, zw_un _ _ (by omega)]; exact hrw
        have hfr : M2 (z + 7) = some (.inl (G.2.1 0, 120, .inl Y.fr)) := by rw [hM2, zw_un _ _ (by omega)]; exact hfr
        have hto : M2 (z + 8) = some (.inl (G.2.1 0, 120, .inl Y.to)) := by rw [hM2, zw_un _ _ (by omega)]; exact hto
        have hsi : M2 (z + 9) = some (.inl (G.2.1 0, 120, .inl Y.si)) := by rw [hM2, zw_un _ _ (by omega)]; exact hsi
        have hcl : M2 (z + 10) = some (.inl (G.2.1 1, 120, .inr (.inl Y.cl))) := by rw [hM2, zw_un _ _ (by omega)]; exact hcl
        have hins : M2 (z + 11) = some (.inl (G.2.1 0, 57600, .inl Y.ins)) := by rw [hM2, zw_un _ _ (by omega)]; exact hins
        have hpart : M2 (z + 12) = some (.inl (G.2.1 0, 480, .inl (upd (zcp Y.part (fun q => Y.ins (480 * Y.rw j + q)) 0 i) i (Y.ins (480 * Y.rw j + i))))) := by rw [hM2]; exact zw_us _ _ _
        refine lv_iinc (v := (nI (i + 1))) (lv' := [(8, .int (nI (i + 1))), (0, .ref x), (1, .int (nI j)), (2, .int (nI (Y.rw j))), (3, .int (nI mg.chs.length)), (4, .int (nI mg.rcv)), (5, .int (nI mg.snd)), (6, .long cv0)]) hx hb dR_deliver_93 hl (k := 7) rfl (nI_add _ _) (by decide) rfl (fun ls hl => ?_)
        refine lv_goto (tgt := 67) hx hb dR_deliver_96 (by decide) ?_
        exact ih b7 ls H2 _ ⟨lv_sub hl [1, 2, 3, 4, 5, 6, 7, 0] rfl, M2, hH, hS, ⟨by rw [hM2, hMi, zw_uu, show upd (zcp Y.part (fun q => Y.ins (480 * Y.rw j + q)) 0 i) i (Y.ins (480 * Y.rw j + i)) = zcp Y.part (fun q => Y.ins (480 * Y.rw j + q)) 0 (i + 1) from by have h9 := zcp_s Y.part (fun q => Y.ins (480 * Y.rw j + q)) 0 i; rw [Nat.zero_add] at h9; exact h9], hsz⟩⟩
    · exact absurd b89 (by decide)

theorem kR_deliver (l : Launch) (G : zG) (B : Nat) (M : zw_M) (sz : Nat) (x z n mb : Nat) (st : zSt) (th pt : Nat) (Y : zRX) (hn : n ≤ 8) (hR : zRR G M x z n mb st th pt Y) (hok : zOK n st) (h120 : st.fl.length ≤ 120) (j : Nat) (hj : j < st.fl.length) (mg : zMg) (hmg : st.fl[j]? = some mg) (hmb : mb ≤ 2000) : Met l yR_deliver (Cond.code yR_deliver bR_deliver 9 (some .int) :: zT) { frames := 2, cells := 0, slots := 0, locals := 60 } (zq G B M sz [.ref x, .int (nI j)]) (va_Qi (fun (r : Int32) (u : zw_M × Nat) => r = nI (zdeliver st j mg mb).2 ∧ zRO G x z n mb sz M ((zdeliver st j mg mb).1) 0 u) (zr_o G.1 zCl B) (zw_A B)) (0) (0) (zw_A B) := by
  cases hk : mg.ck with
  | some k => exact kR_deliver_clock l G B M sz x z n mb st th pt Y hn hR hok h120 j hj mg hmg hmb k hk
  | none => exact kR_deliver_part l G B M sz x z n mb st th pt Y hn hR hok h120 j hj mg hmg hk
