/-! THE REFERENCE: twice, take, answer, deliver -/
theorem zb_and (y : Int64) : (y &&& 255).toInt32 = nI (uN y % 256) := by
  have h : uN (y &&& 255) = uN y % 256 := by
    show (y.toUInt64 &&& Int64.toUInt64 255).toNat = _
    rw [UInt64.toNat_and]
    have e2 : (Int64.toUInt64 255).toNat = 2 ^ 8 - 1 := by decide
    rw [e2, Nat.and_two_pow_sub_one_eq_mod]
    rfl
  rw [← lN_uN (y &&& 255), lN_i, h]
theorem zb_sar (x : Int64) {k : Nat} (hk : k < 64) (hk8 : k + 8 ≤ 64) : uN (x >>> ((nI k).toInt64 &&& 63)) % 256 = uN x / 2 ^ k % 256 := by
  have h0 : (((nI k).toInt64 &&& 63).toBitVec.smod 64).toNat = k := by
    have : ∀ k, k < 64 → (((nI k).toInt64 &&& 63).toBitVec.smod 64).toNat = k := by decide +kernel
    exact this k hk
  show (x.toBitVec.sshiftRight (((nI k).toInt64 &&& 63).toBitVec.smod 64).toNat).toNat % 256 = _
  rw [h0]
  show _ = (x.toBitVec.toNat / 2 ^ k) % 256
  apply Nat.eq_of_testBit_eq
  intro i
  rw [show (256 : Nat) = 2 ^ 8 from rfl, Nat.testBit_mod_two_pow, Nat.testBit_mod_two_pow]
  by_cases hi : i < 8
  · have e1 : (x.toBitVec.sshiftRight k).toNat.testBit i = (x.toBitVec.sshiftRight k).getLsbD i := rfl
    rw [e1, BitVec.getLsbD_sshiftRight, ← Nat.shiftRight_eq_div_pow, Nat.testBit_shiftRight]
    have h2 : ¬ 64 ≤ i := by omega
    have h3 : k + i < 64 := by omega
    simp [h2, h3, hi]
    rfl
  · simp [hi]
theorem zb_ref (x : Int64) {a : Nat} (ha : a < 8) : ((x >>> ((nI (8 * a)).toInt64 &&& 63)) &&& 255).toInt32 = nI (zb x a) := by
  rw [zb_and, zb_sar x (by omega) (by omega)]
  rfl
set_option maxHeartbeats 4000000 in
set_option maxRecDepth 100000 in
theorem kR_take (l : Launch) (G : zG) (B : Nat) (M : zw_M) (sz : Nat) (x z n mb : Nat) (st : zSt) (th pt : Nat) (Y : zRX) (hn : n ≤ 8) (hR : zRR G M x z n mb st th pt Y) (hok : zOK n st) (rc : Nat) (hrc : rc < n) (chs : List Nat) (hpt : ∀ k, k < chs.length → Y.part k = nI (chs.getD k 0)) (hval : ∀ d ∈ chs, zval n st.wt d) (h480 : chs.length ≤ 480) : Met l yR_take (Cond.code yR_take bR_take 5 (some .int) :: zT) { frames := 1, cells := 0, slots := 0, locals := 24 } (zq G B M sz [.ref x, .int (nI rc), .int (nI chs.length)]) (va_Qi (fun (r : Int32) (u : zw_M × Nat) => r = nI (chs.foldl (zta rc) (st, 0)).2 ∧ zRR G u.1 x z n mb (chs.foldl (zta rc) (st, 0)).1 th pt Y ∧ zrf x z M u.1 ∧ u.2 = sz) (zr_o G.1 zCl B) (zw_A B)) (0) (0) (zw_A B) := by
  refine Met.ofW (cc := bR_take) (maxL := 5) (ret := (some .int)) (by decide) rfl ?_
  intro p e s m args below meth c s₁ B0 hml hv
  obtain ⟨rfl, hE, hH, hsz⟩ := hv
  have hx := B0.exec
  have hb := B0.bytes
  have hr := B0.returns
  have hlocks := B0.notSynchronized
  have hz : ∀ w ∈ zT, w.before _ s = true := fun w h => atoms_spec (ws := Cond.code yR_take bR_take 5 (some .int) :: zT) B0.pre w (List.mem_cons_of_mem _ h)
  have hown : s.vm.findClass RR = some m.cls := findClass_of_methodNamed B0.named
  have hK := hE.1
  have hl := lv_entry ([.ref x, .int (nI rc), .int (nI chs.length)]) (n := 5) (Nat.le_of_ble_eq_true rfl)
  rw [lg_entry_eq]
  generalize (lg_sl ([.ref x, .int (nI rc), .int (nI chs.length)]) ++ List.replicate (5 - (lg_sl ([.ref x, .int (nI rc), .int (nI chs.length)])).length) Slot.unset).toArray = ls at hl ⊢
  have hl : lv_has ls 5 [(0, .ref x), (1, .int (nI rc)), (2, .int (nI chs.length))] := hl
  have hS : va_S (zw_A B) s.heap s.heap [] := va_S.rf
  have hin : meth.name = "take" := (name_of_methodNamed B0.named B0.method).1
  refine lv_iconst (v := nI 0) hx hb dR_take_0 (by decide) ?_
  refine lv_istore_n (lv' := [(3, .int (nI 0)), (0, .ref x), (1, .int (nI rc)), (2, .int (nI chs.length))]) hx hb dR_take_1 rfl hl (by decide) rfl (fun ls hl => ?_)
  refine lv_iconst (v := nI 0) hx hb dR_take_2 (by decide) ?_
  refine lv_istore (lv' := [(4, .int (nI 0)), (3, .int (nI 0)), (0, .ref x), (1, .int (nI rc)), (2, .int (nI chs.length))]) hx hb dR_take_3 hl (by decide) rfl (fun ls hl => ?_)
  refine zl_upH (Wg := fun ls H locs => W p l e _ s m _ below meth c H locs 0 0 _ (F0 m 5 ls [])) (fun i ls H locs => lv_has ls 5 [(0, .ref x), (1, .int (nI rc)), (2, .int (nI chs.length)), (3, .int (nI ((zT2 st rc chs i).2))), (4, .int (nI i))] ∧ ∃ Mq : zw_M, zw_H G.1 zCl B Mq H ∧ va_S (zw_A B) s.heap H locs ∧ zRR G Mq x z n mb (zT2 st rc chs i).1 th pt Y ∧ zrf x z M Mq ∧ H.size = sz) chs.length ?_ (i := 0) (by omega) ⟨lv_sub hl [2, 3, 4, 1, 0] rfl, M, hH, hS, ⟨hR, zrf.rf, hsz⟩⟩
  intro i hi ls Hi Li ⟨hl, Mi, hH, hS, hI⟩ ih
  have hl : lv_has ls 5 [(0, .ref x), (1, .int (nI rc)), (2, .int (nI chs.length)), (3, .int (nI ((zT2 st rc chs i).2))), (4, .int (nI i))] := hl
  obtain ⟨hR1, hfr, hsz⟩ := hI
  obtain ⟨hok1, hwt1⟩ := zT2_ok hok hrc hval i
  have hx0 := hR1.obj
  have hpart := hR1.part
  have hxz := hR1.xz
  refine lv_iload hx hb dR_take_5 (lv_at hl 4 rfl) ?_
  refine lv_iload_n hx hb dR_take_7 rfl (lv_at hl 2 rfl) ?_
  refine zc_ge (tgt := 75) hx hb dR_take_8 (by decide) (by omega) (by omega) (fun b1 => ?_) (fun b1 => ?_)
  · have e1 : chs.length = i := by omega
    refine lv_iload_n hx hb dR_take_75 rfl (lv_at hl 3 rfl) ?_
    rw [← zT2_e, e1]
    exact W.iret (v := (nI ((zT2 st rc chs i).2))) hx hb hr (fun t ht hW => ⟨⟨(nI ((zT2 st rc chs i).2)), (Mi, sz), rfl, ⟨rfl, hR1, hfr, rfl⟩, by rw [ht]; exact hH, by rw [ht]; exact hsz⟩, hS.F ht⟩) hS.2.2 dR_take_76
  · have hs1 := zT2_s st rc chs b1
    have hv1 := hval _ (zget_mem b1)
    have hp0 := hpt i b1
    obtain ⟨k0, hk0⟩ : ∃ q, q = chs.getD i 0 := ⟨_, rfl⟩
    rw [← hk0] at hs1 hv1 hp0
    have hv2 : zval n (zT2 st rc chs i).1.wt k0 := by rw [hwt1]; exact hv1
    have hk31 := zval.lt hn hok1 hv2
    have hcb := hok1.b8 hrc (k0 % 8) (Nat.mod_lt _ (by decide))
    refine lv_aload_n hx hb dR_take_11 rfl (lv_at hl 0 rfl) ?_
    refine va_get (D := G.1) (ci := 2) (v := .ref (z + 12)) (C := RR) (T := TR) (N := 22) hx hb hz iR hown hK (hH.one hx0) 0 rfl rfl 20 (by decide) (hz _ zm_408) (fun _ h9 => h9) rfl dR_take_12 ?_
    refine lv_iload hx hb dR_take_15 (lv_at hl 4 rfl) ?_
    refine zw_iald hx hb hK hH 0 hpart rfl (i) rfl (by omega) (by decide) dR_take_17 ?_
    refine zw_ti (hp0) ?_
    refine lv_bipush (v := nI 8) hx hb dR_take_18 (by decide) ?_
    refine lv_idiv hx hb dR_take_20 (nI_ne0 (by decide) (by decide)) ?_
    refine zw_ti (pk_div hk31 (by decide) (by decide)) ?_
    refine lv_aload_n hx hb dR_take_21 rfl (lv_at hl 0 rfl) ?_
    refine lv_iload_n hx hb dR_take_22 rfl (lv_at hl 1 rfl) ?_
    refine lv_aload_n hx hb dR_take_23 rfl (lv_at hl 0 rfl) ?_
    refine va_get (D := G.1) (ci := 2) (v := .ref (z + 12)) (C := RR) (T := TR) (N := 22) hx hb hz iR hown hK (hH.one hx0) 0 rfl rfl 20 (by decide) (hz _ zm_408) (fun _ h9 => h9) rfl dR_take_24 ?_
    refine lv_iload hx hb dR_take_27 (lv_at hl 4 rfl) ?_
    refine zw_iald hx hb hK hH 0 hpart rfl (i) rfl (by omega) (by decide) dR_take_29 ?_
    refine zw_ti (hp0) ?_
    refine lv_bipush (v := nI 8) hx hb dR_take_30 (by decide) ?_
    refine lv_irem hx hb dR_take_32 (nI_ne0 (by decide) (by decide)) ?_
    refine zw_ti (pk_rem hk31 (by decide) (by decide)) ?_
    refine zr_V (As := [.int (nI rc), .int (nI (k0 % 8))]) (rest := [.int (nI (k0 / 8))]) (q := (RR, TR, 22)) ⟨hx, hb, hml, hown, hz⟩ (kR_reached l G B Mi x z n mb (zT2 st rc chs i).1 th pt Y hn hR1 hok1 rc (k0 % 8) hrc (Nat.mod_lt _ (by decide))) (zt_V zm_479 zm_481 zs_18 zm_3 zm_482) rfl rfl rfl (show _ ∧ _ ∧ _ ∧ _ = some 2 from by decide +kernel) ⟨Nat.le_of_ble_eq_true rfl, Nat.le_of_ble_eq_true rfl⟩ zE_blind (zE_at hE hS) hH hK hx0 rfl rfl hl.1 rfl (Nat.le_of_ble_eq_true rfl) dR_take_33 ⟨Nat.le_of_ble_eq_true rfl, Nat.le_of_ble_eq_true rfl⟩ ?_
    refine lv_iconst (v := nI 1) hx hb dR_take_36 (by decide) ?_
    refine lv_iadd hx hb dR_take_37 ?_
    refine zw_ti (nI_add _ _) ?_
    refine zc_ne (tgt := 59) hx hb dR_take_38 (by decide) (by omega) (by omega) (fun b2 => ?_) (fun b2 => ?_)
    · refine lv_aload_n hx hb dR_take_59 rfl (lv_at hl 0 rfl) ?_
      refine lv_dup hx hb dR_take_60 rfl ?_
      refine va_get (D := G.1) (ci := 2) (v := .int (nI ((zT2 st rc chs i).1.pa))) (C := RR) (T := TR) (N := 22) hx hb hz iR hown hK (hH.one hx0) 0 rfl rfl 19 (by decide) (hz _ zm_407) (fun _ h9 => h9) rfl dR_take_61 ?_
      refine lv_iconst (v := nI 1) hx hb dR_take_64 (by decide) ?_
      refine lv_iadd hx hb dR_take_65 ?_
      refine zw_ti (nI_add _ _) ?_
      refine zw_put (D := G.1) (ci := 2) (v := .int (nI (((zT2 st rc chs i).1.pa) + 1))) (ty := .int) (C := RR) (T := TR) (N := 22) hx hb hz iR tR tR_ok nR hown hK hH hS hx0 rfl 19 (by decide) (hz _ zm_407) (fun _ h9 => h9) rfl (by decide +kernel) rfl rfl (Nat.le_of_ble_eq_true rfl) dR_take_66 (fun H1 L1 hH hz1 hS => ?_)
      have hsz : H1.size = sz := hz1.trans hsz
      obtain ⟨M1, hM1⟩ : ∃ Mq, Mq = zw_u Mi x (.inr (2, zoR th n mb z ((zT2 st rc chs i).1.fl.length) ((zT2 st rc chs i).1.se) ((zT2 st rc chs i).1.lo) ((zT2 st rc chs i).1.go) (((zT2 st rc chs i).1.pa) + 1) pt)) := ⟨_, rfl⟩
      have hH : zw_H G.1 zCl B M1 H1 := by rw [hM1]; exact hH
      have hpart : M1 (z + 12) = some (.inl (G.2.1 0, 480, .inl Y.part)) := by rw [hM1, zw_un _ _ (by omega)]; exact hpart
      have hx0 : M1 x = some (.inr (2, zoR th n mb z ((zT2 st rc chs i).1.fl.length) ((zT2 st rc chs i).1.se) ((zT2 st rc chs i).1.lo) ((zT2 st rc chs i).1.go) (((zT2 st rc chs i).1.pa) + 1) pt)) := by rw [hM1]; exact zw_us _ _ _
      have hT : zT2 st rc chs (i + 1) = (zpass (zT2 st rc chs i).1, (zT2 st rc chs i).2) := by rw [hs1]; exact if_neg b2
      have hkf : ∀ a : Nat, a ≠ x → M1 a = Mi a := fun a h1 => by rw [hM1, zw_un _ _ h1]
      refine lv_iinc (v := (nI (i + 1))) (lv' := [(4, .int (nI (i + 1))), (0, .ref x), (1, .int (nI rc)), (2, .int (nI chs.length)), (3, .int (nI ((zT2 st rc chs i).2)))]) hx hb dR_take_69 hl (k := 4) rfl (nI_add _ _) (by decide) rfl (fun ls hl => ?_)
      refine lv_goto (tgt := 5) hx hb dR_take_72 (by decide) ?_
      exact ih b1 ls H1 _ ⟨lv_sub hl [1, 2, 3, 4, 0] (by rw [hT]; rfl), M1, hH, hS, ⟨by rw [hT]; exact hR1.cnt rfl rfl rfl rfl hx0 (fun a e h1 h2 => (hkf a h1).trans h2), fun q h1 h2 => (hkf q h1).trans (hfr q h1 h2), hsz⟩⟩
    · refine lv_aload_n hx hb dR_take_41 rfl (lv_at hl 0 rfl) ?_
      refine lv_iload_n hx hb dR_take_42 rfl (lv_at hl 1 rfl) ?_
      refine lv_aload_n hx hb dR_take_43 rfl (lv_at hl 0 rfl) ?_
      refine va_get (D := G.1) (ci := 2) (v := .ref (z + 12)) (C := RR) (T := TR) (N := 22) hx hb hz iR hown hK (hH.one hx0) 0 rfl rfl 20 (by decide) (hz _ zm_408) (fun _ h9 => h9) rfl dR_take_44 ?_
      refine lv_iload hx hb dR_take_47 (lv_at hl 4 rfl) ?_
      refine zw_iald hx hb hK hH 0 hpart rfl (i) rfl (by omega) (by decide) dR_take_49 ?_
      refine zw_ti (hp0) ?_
      refine zr_Vv (As := [.int (nI rc), .int (nI k0)]) (rest := []) (q := (RR, TR, 22)) (mc := 0) (ms := 0) ⟨hx, hb, hml, hown, hz⟩ (kR_enter l G B Mi _ x z n mb (zT2 st rc chs i).1 th pt Y hn hR1 rc k0 hrc (by have := hok1.len2 hrc hv2 b2; omega)) (zt_V zm_467 zm_469 zs_16 zm_3 zm_470) rfl rfl rfl (show _ ∧ _ ∧ _ ∧ _ = some 2 from by decide +kernel) ⟨Nat.le_of_ble_eq_true rfl, Nat.le_of_ble_eq_true rfl⟩ zE_blind (zE_at hE hS) hH hK hx0 rfl rfl hS hl.1 rfl (Nat.le_of_ble_eq_true rfl) dR_take_50 ⟨Nat.le_of_ble_eq_true rfl, Nat.le_of_ble_eq_true rfl⟩ (fun M1 sz1 H1 L1 hp hH hz1 hz2 hS => ?_)
      obtain ⟨hR2, hfr2, hz3⟩ := hp
      have hsz : H1.size = sz := hz1.trans (hz3.trans hsz)
      have hT : zT2 st rc chs (i + 1) = (zlog (zT2 st rc chs i).1 rc k0, (zT2 st rc chs i).2 + 1) := by rw [hs1]; exact if_pos b2
      refine lv_iinc (v := (nI (((zT2 st rc chs i).2) + 1))) (lv' := [(3, .int (nI (((zT2 st rc chs i).2) + 1))), (0, .ref x), (1, .int (nI rc)), (2, .int (nI chs.length)), (4, .int (nI i))]) hx hb dR_take_53 hl (k := 3) rfl (nI_add _ _) (by decide) rfl (fun ls hl => ?_)
      refine lv_goto (tgt := 69) hx hb dR_take_56 (by decide) ?_
      refine lv_iinc (v := (nI (i + 1))) (lv' := [(4, .int (nI (i + 1))), (3, .int (nI (((zT2 st rc chs i).2) + 1))), (0, .ref x), (1, .int (nI rc)), (2, .int (nI chs.length))]) hx hb dR_take_69 hl (k := 4) rfl (nI_add _ _) (by decide) rfl (fun ls hl => ?_)
      refine lv_goto (tgt := 5) hx hb dR_take_72 (by decide) ?_
      exact ih b1 ls H1 _ ⟨lv_sub hl [2, 3, 4, 1, 0] (by rw [hT]; rfl), M1, hH, hS, ⟨by rw [hT]; exact hR2, hfr.tr hfr2, hsz⟩⟩

theorem zRR.prt {G : zG} {M : zw_M} {x z n mb : Nat} {st : zSt} {th pt : Nat} {Y : zRX} {M' : zw_M} {gp : Nat → Int32} (h : zRR G M x z n mb st th pt Y) (hk : ∀ (a : Nat) (e : va_E), a ≠ z + 12 → M a = some e → M' a = some e) (hp : M' (z + 12) = some (.inl (G.2.1 0, 480, .inl gp))) : zRR G M' x z n mb st th pt (zRX.mk Y.rw Y.nu Y.fr Y.to Y.si Y.cl Y.ins gp) := by
  have h1 := h.xz
  exact ⟨h.xz, hk _ _ (by omega) h.obj, hk _ _ (by omega) h.dn, hk _ _ (by omega) h.md, hk _ _ (by omega) h.wt, hk _ _ (by omega) h.has, hk _ _ (by omega) h.mn, hk _ _ (by omega) h.rw, hk _ _ (by omega) h.nu, hk _ _ (by omega) h.fr, hk _ _ (by omega) h.to, hk _ _ (by omega) h.si, hk _ _ (by omega) h.cl, hk _ _ (by omega) h.ins, hp, h.rwb, h.rwi, h.msg⟩
set_option maxHeartbeats 4000000 in
set_option maxRecDepth 100000 in
theorem kR_answer (l : Launch) (G : zG) (B : Nat) (M : zw_M) (sz : Nat) (x z n mb : Nat) (st : zSt) (th pt : Nat) (Y : zRX) (hn : n ≤ 8) (hR : zRR G M x z n mb st th pt Y) (hok : zOK n st) (rc sd : Nat) (told : Int64) (hrc : rc < n) (hsd : sd < n) (hmb : mb ≤ 2000) : Met l yR_answer (Cond.code yR_answer bR_answer 10 (some .int) :: zT) { frames := 1, cells := 0, slots := 0, locals := 30 } (zq G B M sz [.ref x, .int (nI rc), .int (nI sd), .long told]) (va_Qi (fun (r : Int32) (u : zw_M × Nat) => r = nI (zanswer st rc sd told mb).2 ∧ zRO G x z n mb sz M (zanswer st rc sd told mb).1 th u) (zr_o G.1 zCl B) (zw_A B)) (0) (0) (zw_A B) := by
  refine Met.ofW (cc := bR_answer) (maxL := 10) (ret := (some .int)) (by decide) rfl ?_
  intro p e s m args below meth c s₁ B0 hml hv
  obtain ⟨rfl, hE, hH, hsz⟩ := hv
  have hx := B0.exec
  have hb := B0.bytes
  have hr := B0.returns
  have hlocks := B0.notSynchronized
  have hz : ∀ w ∈ zT, w.before _ s = true := fun w h => atoms_spec (ws := Cond.code yR_answer bR_answer 10 (some .int) :: zT) B0.pre w (List.mem_cons_of_mem _ h)
  have hown : s.vm.findClass RR = some m.cls := findClass_of_methodNamed B0.named
  have hK := hE.1
  have hl := lv_entry ([.ref x, .int (nI rc), .int (nI sd), .long told]) (n := 10) (Nat.le_of_ble_eq_true rfl)
  rw [lg_entry_eq]
  generalize (lg_sl ([.ref x, .int (nI rc), .int (nI sd), .long told]) ++ List.replicate (10 - (lg_sl ([.ref x, .int (nI rc), .int (nI sd), .long told])).length) Slot.unset).toArray = ls at hl ⊢
  have hl : lv_has ls 10 [(0, .ref x), (1, .int (nI rc)), (2, .int (nI sd)), (3, .long told)] := hl
  have hS : va_S (zw_A B) s.heap s.heap [] := va_S.rf
  have hin : meth.name = "answer" := (name_of_methodNamed B0.named B0.method).1
  have hlen := hok.len hrc
  have hx0 := hR.obj
  have hxz := hR.xz
  refine lv_iconst (v := nI 0) hx hb dR_answer_0 (by decide) ?_
  refine lv_istore (lv' := [(5, .int (nI 0)), (0, .ref x), (1, .int (nI rc)), (2, .int (nI sd)), (3, .long told)]) hx hb dR_answer_1 hl (by decide) rfl (fun ls hl => ?_)
  refine lv_iconst (v := nI 3) hx hb dR_answer_3 (by decide) ?_
  refine lv_istore (lv' := [(6, .int (nI 3)), (5, .int (nI 0)), (0, .ref x), (1, .int (nI rc)), (2, .int (nI sd)), (3, .long told)]) hx hb dR_answer_4 hl (by decide) rfl (fun ls hl => ?_)
  refine lv_aload_n hx hb dR_answer_6 rfl (lv_at hl 2 rfl) ?_
  refine lv_iconst (v := nI 0) hx hb dR_answer_7 (by decide) ?_
  refine zw_put (D := G.1) (ci := 2) (v := .int (nI 0)) (ty := .int) (C := RR) (T := TR) (N := 22) hx hb hz iR tR tR_ok nR hown hK hH hS hx0 rfl 21 (by decide) (hz _ zm_409) (fun _ h9 => h9) rfl (by decide +kernel) rfl rfl (Nat.le_of_ble_eq_true rfl) dR_answer_8 (fun H1 L1 hH hz1 hS => ?_)
  have hsz : H1.size = sz := hz1.trans hsz
  obtain ⟨M1, hM1⟩ : ∃ Mq, Mq = zw_u M x (.inr (2, zoR th n mb z st.fl.length st.se st.lo st.go st.pa 0)) := ⟨_, rfl⟩
  have hH : zw_H G.1 zCl B M1 H1 := by rw [hM1]; exact hH
  have hx0 : M1 x = some (.inr (2, zoR th n mb z st.fl.length st.se st.lo st.go st.pa 0)) := by rw [hM1]; exact zw_us _ _ _
  have hkx : ∀ a : Nat, a ≠ x → M1 a = M a := fun a h1 => by rw [hM1, zw_un _ _ h1]
  have hRn : zRR G M1 x z n mb st th 0 Y := hR.cnt (st' := st) rfl rfl rfl rfl hx0 (fun a e h1 h2 => (hkx a h1).trans h2)
  refine lv_iconst (v := nI 0) hx hb dR_answer_11 (by decide) ?_
  refine lv_istore (lv' := [(7, .int (nI 0)), (6, .int (nI 3)), (5, .int (nI 0)), (0, .ref x), (1, .int (nI rc)), (2, .int (nI sd)), (3, .long told)]) hx hb dR_answer_12 hl (by decide) rfl (fun ls hl => ?_)
  refine zl_upH (Wg := fun ls H locs => W p l e _ s m _ below meth c H locs 0 0 _ (F0 m 14 ls [])) (fun i ls H locs => lv_has ls 10 [(0, .ref x), (1, .int (nI rc)), (2, .int (nI sd)), (3, .long told), (5, .int (nI ((zA st rc sd told mb i).part.length))), (6, .int (nI ((zA st rc sd told mb i).byt))), (7, .int (nI i))] ∧ ∃ Mq : zw_M, zw_H G.1 zCl B Mq H ∧ va_S (zw_A B) s.heap H locs ∧ (∃ Y1 : zRX, zRR G Mq x z n mb (zA st rc sd told mb i).st th (zA st rc sd told mb i).parts Y1 ∧ ∀ k, k < (zA st rc sd told mb i).part.length → Y1.part k = nI ((zA st rc sd told mb i).part.getD k 0)) ∧ zrf x z M Mq ∧ H.size = sz) ((st.lg rc).length) ?_ (i := 0) (by omega) ⟨lv_sub hl [3, 4, 5, 6, 2, 1, 0] rfl, M1, hH, hS, ⟨⟨Y, hRn, fun k hk => absurd hk (Nat.not_lt_zero k)⟩, fun q h1 h2 => hkx q h1, hsz⟩⟩
  intro i hi ls Hi Li ⟨hl, Mi, hH, hS, hI⟩ ih
  have hl : lv_has ls 10 [(0, .ref x), (1, .int (nI rc)), (2, .int (nI sd)), (3, .long told), (5, .int (nI ((zA st rc sd told mb i).part.length))), (6, .int (nI ((zA st rc sd told mb i).byt))), (7, .int (nI i))] := hl
  obtain ⟨⟨Y1, hR1, hg1⟩, hfr, hsz⟩ := hI
  have hA := zA_ok hok hn (told := told) (mb := mb) hrc hsd i hi
  obtain ⟨hok1, hlg1, hwt1, hpl1, hpv1, hpb1⟩ := hA
  have hbyt : (zA st rc sd told mb i).byt ≤ 3 + 400 * i := zAok.byt hok ⟨hok1, hlg1, hwt1, hpl1, hpv1, hpb1⟩
  have hx0 := hR1.obj
  have hhas := hR1.has
  have hmn := hR1.mn
  have hpart := hR1.part
  have hxz := hR1.xz
  refine lv_iload hx hb dR_answer_14 (lv_at hl 6 rfl) ?_
  refine lv_aload_n hx hb dR_answer_16 rfl (lv_at hl 0 rfl) ?_
  refine va_get (D := G.1) (ci := 2) (v := .ref (z + 4)) (C := RR) (T := TR) (N := 22) hx hb hz iR hown hK (hH.one hx0) 0 rfl rfl 7 (by decide) (hz _ zm_395) (fun _ h9 => h9) rfl dR_answer_17 ?_
  refine lv_iload_n hx hb dR_answer_20 rfl (lv_at hl 1 rfl) ?_
  refine zw_iald hx hb hK hH 0 hmn rfl (rc) rfl (by omega) (by decide) dR_answer_21 ?_
  refine zw_ti (by show nI ((zA st rc sd told mb i).st.lg rc).length = _; rw [hlg1]) ?_
  refine zc_ge (tgt := 140) hx hb dR_answer_22 (by decide) (by omega) (by omega) (fun b1 => ?_) (fun b1 => ?_)
  · have e1 : (st.lg rc).length = i := by omega
    refine lv_iload hx hb dR_answer_140 (lv_at hl 4 rfl) ?_
    have hend := zA_e st rc sd told mb
    rw [e1] at hend
    rw [← hend]
    refine zc_le0 (tgt := 166) hx hb dR_answer_142 (by decide) (by omega) (fun b2 => ?_) (fun b2 => ?_)
    · refine lv_aload_n hx hb dR_answer_166 rfl (lv_at hl 0 rfl) ?_
      refine va_get (D := G.1) (ci := 2) (v := .int (nI ((zA st rc sd told mb i).parts))) (C := RR) (T := TR) (N := 22) hx hb hz iR hown hK (hH.one hx0) 0 rfl rfl 21 (by decide) (hz _ zm_409) (fun _ h9 => h9) rfl dR_answer_167 ?_
      have he2 : zae rc sd (zA st rc sd told mb i) = ((zA st rc sd told mb i).st, (zA st rc sd told mb i).parts) := if_neg (by omega)
      rw [he2]
      exact W.iret (v := (nI ((zA st rc sd told mb i).parts))) hx hb hr (fun t ht hW => ⟨⟨(nI ((zA st rc sd told mb i).parts)), (Mi, sz), rfl, ⟨rfl, ⟨_, Y1, hR1⟩, hfr, rfl⟩, by rw [ht]; exact hH, by rw [ht]; exact hsz⟩, hS.F ht⟩) hS.2.2 dR_answer_170
    · refine lv_aload_n hx hb dR_answer_145 rfl (lv_at hl 0 rfl) ?_
      refine lv_iload_n hx hb dR_answer_146 rfl (lv_at hl 1 rfl) ?_
      refine lv_iload_n hx hb dR_answer_147 rfl (lv_at hl 2 rfl) ?_
      refine lv_iload hx hb dR_answer_148 (lv_at hl 4 rfl) ?_
      refine lv_lconst (v := 0) hx hb dR_answer_150 (by decide) ?_
      refine zr_Vi (As := [.int (nI rc), .int (nI sd), .int (nI ((zA st rc sd told mb i).part.length)), .long 0]) (rest := []) (q := (RR, TR, 22)) (mc := 0) (ms := 0) ⟨hx, hb, hml, hown, hz⟩ (kR_send l G B Mi _ x z n mb (zA st rc sd told mb i).st th (zA st rc sd told mb i).parts Y1 hn hR1 rc sd (zA st rc sd told mb i).byt none (zA st rc sd told mb i).part 0 (zOK.chs hok1) (fun k e => by cases e) hg1 (by omega) hok1.fl (Or.inl rfl)) (zt_V zm_483 zm_485 zs_19 zm_3 zm_486) rfl rfl rfl (show _ ∧ _ ∧ _ ∧ _ = some 4 from by decide +kernel) ⟨Nat.le_of_ble_eq_true rfl, Nat.le_of_ble_eq_true rfl⟩ zE_blind (zE_at hE hS) hH hK hx0 rfl rfl hS hl.1 rfl (Nat.le_of_ble_eq_true rfl) dR_answer_151 ⟨Nat.le_of_ble_eq_true rfl, Nat.le_of_ble_eq_true rfl⟩ (fun r2 M2 sz2 H2 L2 hp hH hz1 hz2 hS => ?_)
      obtain ⟨rfl, ⟨Y2, hR2⟩, hfr2, hz3⟩ := hp
      have hsz : H2.size = sz := hz1.trans (hz3.trans hsz)
      have hR2 : zRR G M2 x z n mb _ th _ Y2 := hR2
      have hfr2 : zrf x z Mi M2 := hfr2
      have hx0 := hR2.obj
      have hpart := hR2.part
      have hxz := hR2.xz
      refine lv_istore (lv' := [(7, .int (nI (zA st rc sd told mb i).st.se)), (0, .ref x), (1, .int (nI rc)), (2, .int (nI sd)), (3, .long told), (5, .int (nI ((zA st rc sd told mb i).part.length))), (6, .int (nI ((zA st rc sd told mb i).byt)))]) hx hb dR_answer_154 hl (by decide) rfl (fun ls hl => ?_)
      refine lv_aload_n hx hb dR_answer_156 rfl (lv_at hl 1 rfl) ?_
      refine lv_dup hx hb dR_answer_157 rfl ?_
      refine va_get (D := G.1) (ci := 2) (v := .int (nI ((zA st rc sd told mb i).parts))) (C := RR) (T := TR) (N := 22) hx hb hz iR hown hK (hH.one hx0) 0 rfl rfl 21 (by decide) (hz _ zm_409) (fun _ h9 => h9) rfl dR_answer_158 ?_
      refine lv_iconst (v := nI 1) hx hb dR_answer_161 (by decide) ?_
      refine lv_iadd hx hb dR_answer_162 ?_
      refine zw_ti (nI_add _ _) ?_
      refine zw_put (D := G.1) (ci := 2) (v := .int (nI (((zA st rc sd told mb i).parts) + 1))) (ty := .int) (C := RR) (T := TR) (N := 22) hx hb hz iR tR tR_ok nR hown hK hH hS hx0 rfl 21 (by decide) (hz _ zm_409) (fun _ h9 => h9) rfl (by decide +kernel) rfl rfl (Nat.le_of_ble_eq_true rfl) dR_answer_163 (fun H3 L3 hH hz1 hS => ?_)
      have hsz : H3.size = sz := hz1.trans hsz
      obtain ⟨M3, hM3⟩ : ∃ Mq, Mq = zw_u M2 x (.inr (2, zoR th n mb z ((zsend (zA st rc sd told mb i).st rc sd (zA st rc sd told mb i).byt none (zA st rc sd told mb i).part).fl.length) ((zsend (zA st rc sd told mb i).st rc sd (zA st rc sd told mb i).byt none (zA st rc sd told mb i).part).se) ((zsend (zA st rc sd told mb i).st rc sd (zA st rc sd told mb i).byt none (zA st rc sd told mb i).part).lo) ((zsend (zA st rc sd told mb i).st rc sd (zA st rc sd told mb i).byt none (zA st rc sd told mb i).part).go) ((zsend (zA st rc sd told mb i).st rc sd (zA st rc sd told mb i).byt none (zA st rc sd told mb i).part).pa) (((zA st rc sd told mb i).parts) + 1))) := ⟨_, rfl⟩
      have hH : zw_H G.1 zCl B M3 H3 := by rw [hM3]; exact hH
      have hpart : M3 (z + 12) = some (.inl (G.2.1 0, 480, .inl Y2.part)) := by rw [hM3, zw_un _ _ (by omega)]; exact hpart
      have hx0 : M3 x = some (.inr (2, zoR th n mb z ((zsend (zA st rc sd told mb i).st rc sd (zA st rc sd told mb i).byt none (zA st rc sd told mb i).part).fl.length) ((zsend (zA st rc sd told mb i).st rc sd (zA st rc sd told mb i).byt none (zA st rc sd told mb i).part).se) ((zsend (zA st rc sd told mb i).st rc sd (zA st rc sd told mb i).byt none (zA st rc sd told mb i).part).lo) ((zsend (zA st rc sd told mb i).st rc sd (zA st rc sd told mb i).byt none (zA st rc sd told mb i).part).go) ((zsend (zA st rc sd told mb i).st rc sd (zA st rc sd told mb i).byt none (zA st rc sd told mb i).part).pa) (((zA st rc sd told mb i).parts) + 1))) := by rw [hM3]; exact zw_us _ _ _
      have hkf : ∀ a : Nat, a ≠ x → M3 a = M2 a := fun a h1 => by rw [hM3, zw_un _ _ h1]
      refine lv_aload_n hx hb dR_answer_166 rfl (lv_at hl 1 rfl) ?_
      refine va_get (D := G.1) (ci := 2) (v := .int (nI (((zA st rc sd told mb i).parts) + 1))) (C := RR) (T := TR) (N := 22) hx hb hz iR hown hK (hH.one hx0) 0 rfl rfl 21 (by decide) (hz _ zm_409) (fun _ h9 => h9) rfl dR_answer_167 ?_
      have he2 : zae rc sd (zA st rc sd told mb i) = ((zsend (zA st rc sd told mb i).st rc sd (zA st rc sd told mb i).byt none (zA st rc sd told mb i).part), (zA st rc sd told mb i).parts + 1) := if_pos b2
      rw [he2]
      exact W.iret (v := (nI (((zA st rc sd told mb i).parts) + 1))) hx hb hr (fun t ht hW => ⟨⟨(nI (((zA st rc sd told mb i).parts) + 1)), (M3, sz), rfl, ⟨rfl, ⟨_, Y2, hR2.cnt (st' := (zsend (zA st rc sd told mb i).st rc sd (zA st rc sd told mb i).byt none (zA st rc sd told mb i).part)) rfl rfl rfl rfl hx0 (fun a e h1 h2 => (hkf a h1).trans h2)⟩, fun q h1 h2 => (hkf q h1).trans ((hfr.tr hfr2) q h1 h2), rfl⟩, by rw [ht]; exact hH, by rw [ht]; exact hsz⟩, hS.F ht⟩) hS.2.2 dR_answer_170
  · have hs1 := zA_s st rc sd told mb b1
    have hv1 := hok.val hrc (zget_mem b1)
    obtain ⟨k0, hk0⟩ : ∃ q, q = (st.lg rc).getD i 0 := ⟨_, rfl⟩
    rw [← hk0] at hs1 hv1
    have hk31 := zval.lt hn hok hv1
    have hc8 : k0 % 8 < 8 := Nat.mod_lt _ (by decide)
    have hw1 := zwo_le hok hv1
    have hzb := zb_lt told (k0 % 8)
    have hv2 : zval n (zA st rc sd told mb i).st.wt k0 := by rw [hwt1]; exact hv1
    obtain ⟨hp1, hp2⟩ := zpl rc i 480 (by omega)
    refine lv_aload_n hx hb dR_answer_25 rfl (lv_at hl 0 rfl) ?_
    refine va_get (D := G.1) (ci := 2) (v := .ref (z + 3)) (C := RR) (T := TR) (N := 22) hx hb hz iR hown hK (hH.one hx0) 0 rfl rfl 6 (by decide) (hz _ zm_394) (fun _ h9 => h9) rfl dR_answer_26 ?_
    refine lv_sipush (v := nI 480) hx hb dR_answer_29 (by decide) ?_
    refine lv_iload_n hx hb dR_answer_32 rfl (lv_at hl 1 rfl) ?_
    refine lv_imul hx hb dR_answer_33 ?_
    refine zw_ti (pk_mul _ _) ?_
    refine lv_iload hx hb dR_answer_34 (lv_at hl 6 rfl) ?_
    refine lv_iadd hx hb dR_answer_36 ?_
    refine zw_ti (nI_add _ _) ?_
    refine zw_iald hx hb hK hH 0 hhas rfl (480 * rc + i) rfl (by omega) (by decide) dR_answer_37 ?_
    refine zw_ti (by show nI (((zA st rc sd told mb i).st.lg ((480 * rc + i) / 480)).getD ((480 * rc + i) % 480) 0) = _; rw [hp1, hp2, hlg1, ← hk0]) ?_
    refine lv_istore (lv' := [(8, .int (nI k0)), (0, .ref x), (1, .int (nI rc)), (2, .int (nI sd)), (3, .long told), (5, .int (nI ((zA st rc sd told mb i).part.length))), (6, .int (nI ((zA st rc sd told mb i).byt))), (7, .int (nI i))]) hx hb dR_answer_38 hl (by decide) rfl (fun ls hl => ?_)
    refine lv_iload hx hb dR_answer_40 (lv_at hl 0 rfl) ?_
    refine lv_bipush (v := nI 8) hx hb dR_answer_42 (by decide) ?_
    refine lv_idiv hx hb dR_answer_44 (nI_ne0 (by decide) (by decide)) ?_
    refine zw_ti (pk_div hk31 (by decide) (by decide)) ?_
    refine lv_lload_n hx hb dR_answer_45 rfl (lv_at hl 4 rfl) ?_
    refine lv_bipush (v := nI 8) hx hb dR_answer_46 (by decide) ?_
    refine lv_iload hx hb dR_answer_48 (lv_at hl 0 rfl) ?_
    refine lv_bipush (v := nI 8) hx hb dR_answer_50 (by decide) ?_
    refine lv_irem hx hb dR_answer_52 (nI_ne0 (by decide) (by decide)) ?_
    refine zw_ti (pk_rem hk31 (by decide) (by decide)) ?_
    refine lv_imul hx hb dR_answer_53 ?_
    refine zw_ti (pk_mul _ _) ?_
    refine lv_lshr hx hb dR_answer_54 rfl ?_
    refine lv_ldc2 hx hb hown (hz _ zm_503) dR_answer_55 ?_
    refine lv_land hx hb dR_answer_58 ?_
    refine lv_l2i hx hb dR_answer_59 rfl ?_
    refine zw_ti (zb_ref told hc8) ?_
    refine zc_le (tgt := 134) hx hb dR_answer_60 (by decide) (by omega) (by omega) (fun b3 => ?_) (fun b3 => ?_)
    · have hT : zA st rc sd told mb (i + 1) = (zA st rc sd told mb i) := by rw [hs1]; exact if_pos b3
      refine lv_iinc (v := (nI (i + 1))) (lv' := [(7, .int (nI (i + 1))), (8, .int (nI k0)), (0, .ref x), (1, .int (nI rc)), (2, .int (nI sd)), (3, .long told), (5, .int (nI ((zA st rc sd told mb i).part.length))), (6, .int (nI ((zA st rc sd told mb i).byt)))]) hx hb dR_answer_134 hl (k := 7) rfl (nI_add _ _) (by decide) rfl (fun ls hl => ?_)
      refine lv_goto (tgt := 14) hx hb dR_answer_137 (by decide) ?_
      exact ih b1 ls Hi _ ⟨lv_sub hl [2, 3, 4, 5, 6, 7, 0] (by rw [hT]; rfl), Mi, hH, hS, by rw [hT]; exact ⟨⟨Y1, hR1, hg1⟩, hfr, hsz⟩⟩
    · refine lv_iload hx hb dR_answer_63 (lv_at hl 5 rfl) ?_
      refine zc_le0 (tgt := 111) hx hb dR_answer_65 (by decide) (by omega) (fun b4 => ?_) (fun b4 => ?_)
      · have hT : zA st rc sd told mb (i + 1) = zAn.mk (zA st rc sd told mb i).st (zA st rc sd told mb i).parts ((zA st rc sd told mb i).part ++ [k0]) ((zA st rc sd told mb i).byt + zwo st.wt k0) := by rw [hs1]; unfold zan; rw [if_neg (by omega), if_neg (by rw [hwt1]; omega), hwt1]
        refine lv_aload_n hx hb dR_answer_111 rfl (lv_at hl 1 rfl) ?_
        refine va_get (D := G.1) (ci := 2) (v := .ref (z + 12)) (C := RR) (T := TR) (N := 22) hx hb hz iR hown hK (hH.one hx0) 0 rfl rfl 20 (by decide) (hz _ zm_408) (fun _ h9 => h9) rfl dR_answer_112 ?_
        refine lv_iload hx hb dR_answer_115 (lv_at hl 5 rfl) ?_
        refine lv_iload hx hb dR_answer_117 (lv_at hl 0 rfl) ?_
        refine zw_iast hx hb hK hH hS 0 hpart rfl ((zA st rc sd told mb i).part.length) rfl (by omega) (by decide) dR_answer_119 (fun H2 L2 hH hz1 hS => ?_)
        have hsz : H2.size = sz := hz1.trans hsz
        obtain ⟨M2, hM2⟩ : ∃ Mq, Mq = zw_u Mi (z + 12) (.inl (G.2.1 0, 480, .inl (upd Y1.part ((zA st rc sd told mb i).part.length) (nI k0)))) := ⟨_, rfl⟩
        have hH : zw_H G.1 zCl B M2 H2 := by rw [hM2]; exact hH
        have hx0 : M2 x = some (.inr (2, zoR th n mb z ((zA st rc sd told mb i).st.fl.length) ((zA st rc sd told mb i).st.se) ((zA st rc sd told mb i).st.lo) ((zA st rc sd told mb i).st.go) ((zA st rc sd told mb i).st.pa) ((zA st rc sd told mb i).parts))) := by rw [hM2, zw_un _ _ (by omega)]; exact hx0
        have hhas : M2 (z + 3) = some (.inl (G.2.1 0, 3840, .inl (fun a9 => nI (((zA st rc sd told mb i).st.lg (a9 / 480)).getD (a9 % 480) 0)))) := by rw [hM2, zw_un _ _ (by omega)]; exact hhas
        have hmn : M2 (z + 4) = some (.inl (G.2.1 0, 8, .inl (fun a9 => nI (((zA st rc sd told mb i).st.lg a9).length)))) := by rw [hM2, zw_un _ _ (by omega)]; exact hmn
        have hpart : M2 (z + 12) = some (.inl (G.2.1 0, 480, .inl (upd Y1.part ((zA st rc sd told mb i).part.length) (nI k0)))) := by rw [hM2]; exact zw_us _ _ _
        have hkf : ∀ a : Nat, a ≠ z + 12 → M2 a = Mi a := fun a h1 => by rw [hM2, zw_un _ _ h1]
        have hR2 : zRR G M2 x z n mb (zA st rc sd told mb i).st th (zA st rc sd told mb i).parts (zRX.mk Y1.rw Y1.nu Y1.fr Y1.to Y1.si Y1.cl Y1.ins (upd Y1.part (zA st rc sd told mb i).part.length (nI k0))) := hR1.prt (fun a e h1 h2 => (hkf a h1).trans h2) hpart
        refine lv_iinc (v := (nI (((zA st rc sd told mb i).part.length) + 1))) (lv' := [(5, .int (nI (((zA st rc sd told mb i).part.length) + 1))), (8, .int (nI k0)), (0, .ref x), (1, .int (nI rc)), (2, .int (nI sd)), (3, .long told), (6, .int (nI ((zA st rc sd told mb i).byt))), (7, .int (nI i))]) hx hb dR_answer_120 hl (k := 5) rfl (nI_add _ _) (by decide) rfl (fun ls hl => ?_)
        refine lv_iload hx hb dR_answer_123 (lv_at hl 6 rfl) ?_
        refine lv_aload_n hx hb dR_answer_125 rfl (lv_at hl 2 rfl) ?_
        refine lv_iload hx hb dR_answer_126 (lv_at hl 1 rfl) ?_
        refine zr_V (As := [.int (nI k0)]) (rest := [.int (nI ((zA st rc sd told mb i).byt))]) (q := (RR, TR, 22)) ⟨hx, hb, hml, hown, hz⟩ (kR_weightOf l G B M2 x z n mb (zA st rc sd told mb i).st th (zA st rc sd told mb i).parts _ hn hR2 hok1 k0 hv2) (zt_V zm_504 zm_506 zs_23 zm_3 zm_507) rfl rfl rfl (show _ ∧ _ ∧ _ ∧ _ = some 1 from by decide +kernel) ⟨Nat.le_of_ble_eq_true rfl, Nat.le_of_ble_eq_true rfl⟩ zE_blind (zE_at hE hS) hH hK hx0 rfl rfl hl.1 rfl (Nat.le_of_ble_eq_true rfl) dR_answer_128 ⟨Nat.le_of_ble_eq_true rfl, Nat.le_of_ble_eq_true rfl⟩ ?_
        refine zw_ti (show nI (zwo (zA st rc sd told mb i).st.wt k0) = nI (zwo st.wt k0) from by rw [hwt1]) ?_
        refine lv_iadd hx hb dR_answer_131 ?_
        refine zw_ti (nI_add _ _) ?_
        refine lv_istore (lv' := [(6, .int (nI (((zA st rc sd told mb i).byt) + (zwo st.wt k0)))), (5, .int (nI (((zA st rc sd told mb i).part.length) + 1))), (8, .int (nI k0)), (0, .ref x), (1, .int (nI rc)), (2, .int (nI sd)), (3, .long told), (7, .int (nI i))]) hx hb dR_answer_132 hl (by decide) rfl (fun ls hl => ?_)
        refine lv_iinc (v := (nI (i + 1))) (lv' := [(7, .int (nI (i + 1))), (6, .int (nI (((zA st rc sd told mb i).byt) + (zwo st.wt k0)))), (5, .int (nI (((zA st rc sd told mb i).part.length) + 1))), (8, .int (nI k0)), (0, .ref x), (1, .int (nI rc)), (2, .int (nI sd)), (3, .long told)]) hx hb dR_answer_134 hl (k := 7) rfl (nI_add _ _) (by decide) rfl (fun ls hl => ?_)
        refine lv_goto (tgt := 14) hx hb dR_answer_137 (by decide) ?_
        exact ih b1 ls H2 _ ⟨lv_sub hl [4, 5, 6, 7, 2, 1, 0] (by rw [hT]; show _ = [_, _, _, _, (5, Value.int (nI (_ ++ [k0]).length)), _, _]; rw [List.length_append]; rfl), M2, hH, hS, by rw [hT]; exact ⟨⟨_, hR2, zgat hg1⟩, fun q h1 h2 => (hkf q (by omega)).trans (hfr q h1 h2), hsz⟩⟩
      · refine lv_iload hx hb dR_answer_68 (lv_at hl 6 rfl) ?_
        refine lv_aload_n hx hb dR_answer_70 rfl (lv_at hl 1 rfl) ?_
        refine lv_iload hx hb dR_answer_71 (lv_at hl 0 rfl) ?_
        refine zr_V (As := [.int (nI k0)]) (rest := [.int (nI ((zA st rc sd told mb i).byt))]) (q := (RR, TR, 22)) ⟨hx, hb, hml, hown, hz⟩ (kR_weightOf l G B Mi x z n mb (zA st rc sd told mb i).st th (zA st rc sd told mb i).parts Y1 hn hR1 hok1 k0 hv2) (zt_V zm_504 zm_506 zs_23 zm_3 zm_507) rfl rfl rfl (show _ ∧ _ ∧ _ ∧ _ = some 1 from by decide +kernel) ⟨Nat.le_of_ble_eq_true rfl, Nat.le_of_ble_eq_true rfl⟩ zE_blind (zE_at hE hS) hH hK hx0 rfl rfl hl.1 rfl (Nat.le_of_ble_eq_true rfl) dR_answer_73 ⟨Nat.le_of_ble_eq_true rfl, Nat.le_of_ble_eq_true rfl⟩ ?_
        refine zw_ti (show nI (zwo (zA st rc sd told mb i).st.wt k0) = nI (zwo st.wt k0) from by rw [hwt1]) ?_
        refine lv_iadd hx hb dR_answer_76 ?_
        refine zw_ti (nI_add _ _) ?_
        refine lv_aload_n hx hb dR_answer_77 rfl (lv_at hl 1 rfl) ?_
        refine va_get (D := G.1) (ci := 2) (v := .int (nI mb)) (C := RR) (T := TR) (N := 22) hx hb hz iR hown hK (hH.one hx0) 0 rfl rfl 2 (by decide) (hz _ zm_390) (fun _ h9 => h9) rfl dR_answer_78 ?_
        refine zc_le (tgt := 111) hx hb dR_answer_81 (by decide) (by omega) (by omega) (fun b5 => ?_) (fun b5 => ?_)
        · have hT : zA st rc sd told mb (i + 1) = zAn.mk (zA st rc sd told mb i).st (zA st rc sd told mb i).parts ((zA st rc sd told mb i).part ++ [k0]) ((zA st rc sd told mb i).byt + zwo st.wt k0) := by rw [hs1]; unfold zan; rw [if_neg (by omega), if_neg (by rw [hwt1]; omega), hwt1]
          refine lv_aload_n hx hb dR_answer_111 rfl (lv_at hl 1 rfl) ?_
          refine va_get (D := G.1) (ci := 2) (v := .ref (z + 12)) (C := RR) (T := TR) (N := 22) hx hb hz iR hown hK (hH.one hx0) 0 rfl rfl 20 (by decide) (hz _ zm_408) (fun _ h9 => h9) rfl dR_answer_112 ?_
          refine lv_iload hx hb dR_answer_115 (lv_at hl 5 rfl) ?_
          refine lv_iload hx hb dR_answer_117 (lv_at hl 0 rfl) ?_
          refine zw_iast hx hb hK hH hS 0 hpart rfl ((zA st rc sd told mb i).part.length) rfl (by omega) (by decide) dR_answer_119 (fun H2 L2 hH hz1 hS => ?_)
          have hsz : H2.size = sz := hz1.trans hsz
          obtain ⟨M2, hM2⟩ : ∃ Mq, Mq = zw_u Mi (z + 12) (.inl (G.2.1 0, 480, .inl (upd Y1.part ((zA st rc sd told mb i).part.length) (nI k0)))) := ⟨_, rfl⟩
          have hH : zw_H G.1 zCl B M2 H2 := by rw [hM2]; exact hH
          have hx0 : M2 x = some (.inr (2, zoR th n mb z ((zA st rc sd told mb i).st.fl.length) ((zA st rc sd told mb i).st.se) ((zA st rc sd told mb i).st.lo) ((zA st rc sd told mb i).st.go) ((zA st rc sd told mb i).st.pa) ((zA st rc sd told mb i).parts))) := by rw [hM2, zw_un _ _ (by omega)]; exact hx0
          have hhas : M2 (z + 3) = some (.inl (G.2.1 0, 3840, .inl (fun a9 => nI (((zA st rc sd told mb i).st.lg (a9 / 480)).getD (a9 % 480) 0)))) := by rw [hM2, zw_un _ _ (by omega)]; exact hhas
          have hmn : M2 (z + 4) = some (.inl (G.2.1 0, 8, .inl (fun a9 => nI (((zA st rc sd told mb i).st.lg a9).length)))) := by rw [hM2, zw_un _ _ (by omega)]; exact hmn
          have hpart : M2 (z + 12) = some (.inl (G.2.1 0, 480, .inl (upd Y1.part ((zA st rc sd told mb i).part.length) (nI k0)))) := by rw [hM2]; exact zw_us _ _ _
          have hkf : ∀ a : Nat, a ≠ z + 12 → M2 a = Mi a := fun a h1 => by rw [hM2, zw_un _ _ h1]
          have hR2 : zRR G M2 x z n mb (zA st rc sd told mb i).st th (zA st rc sd told mb i).parts (zRX.mk Y1.rw Y1.nu Y1.fr Y1.to Y1.si Y1.cl Y1.ins (upd Y1.part (zA st rc sd told mb i).part.length (nI k0))) := hR1.prt (fun a e h1 h2 => (hkf a h1).trans h2) hpart
          refine lv_iinc (v := (nI (((zA st rc sd told mb i).part.length) + 1))) (lv' := [(5, .int (nI (((zA st rc sd told mb i).part.length) + 1))), (8, .int (nI k0)), (0, .ref x), (1, .int (nI rc)), (2, .int (nI sd)), (3, .long told), (6, .int (nI ((zA st rc sd told mb i).byt))), (7, .int (nI i))]) hx hb dR_answer_120 hl (k := 5) rfl (nI_add _ _) (by decide) rfl (fun ls hl => ?_)
          refine lv_iload hx hb dR_answer_123 (lv_at hl 6 rfl) ?_
          refine lv_aload_n hx hb dR_answer_125 rfl (lv_at hl 2 rfl) ?_
          refine lv_iload hx hb dR_answer_126 (lv_at hl 1 rfl) ?_
          refine zr_V (As := [.int (nI k0)]) (rest := [.int (nI ((zA st rc sd told mb i).byt))]) (q := (RR, TR, 22)) ⟨hx, hb, hml, hown, hz⟩ (kR_weightOf l G B M2 x z n mb (zA st rc sd told mb i).st th (zA st rc sd told mb i).parts _ hn hR2 hok1 k0 hv2) (zt_V zm_504 zm_506 zs_23 zm_3 zm_507) rfl rfl rfl (show _ ∧ _ ∧ _ ∧ _ = some 1 from by decide +kernel) ⟨Nat.le_of_ble_eq_true rfl, Nat.le_of_ble_eq_true rfl⟩ zE_blind (zE_at hE hS) hH hK hx0 rfl rfl hl.1 rfl (Nat.le_of_ble_eq_true rfl) dR_answer_128 ⟨Nat.le_of_ble_eq_true rfl, Nat.le_of_ble_eq_true rfl⟩ ?_
          refine zw_ti (show nI (zwo (zA st rc sd told mb i).st.wt k0) = nI (zwo st.wt k0) from by rw [hwt1]) ?_
          refine lv_iadd hx hb dR_answer_131 ?_
          refine zw_ti (nI_add _ _) ?_
          refine lv_istore (lv' := [(6, .int (nI (((zA st rc sd told mb i).byt) + (zwo st.wt k0)))), (5, .int (nI (((zA st rc sd told mb i).part.length) + 1))), (8, .int (nI k0)), (0, .ref x), (1, .int (nI rc)), (2, .int (nI sd)), (3, .long told), (7, .int (nI i))]) hx hb dR_answer_132 hl (by decide) rfl (fun ls hl => ?_)
          refine lv_iinc (v := (nI (i + 1))) (lv' := [(7, .int (nI (i + 1))), (6, .int (nI (((zA st rc sd told mb i).byt) + (zwo st.wt k0)))), (5, .int (nI (((zA st rc sd told mb i).part.length) + 1))), (8, .int (nI k0)), (0, .ref x), (1, .int (nI rc)), (2, .int (nI sd)), (3, .long told)]) hx hb dR_answer_134 hl (k := 7) rfl (nI_add _ _) (by decide) rfl (fun ls hl => ?_)
          refine lv_goto (tgt := 14) hx hb dR_answer_137 (by decide) ?_
          exact ih b1 ls H2 _ ⟨lv_sub hl [4, 5, 6, 7, 2, 1, 0] (by rw [hT]; show _ = [_, _, _, _, (5, Value.int (nI (_ ++ [k0]).length)), _, _]; rw [List.length_append]; rfl), M2, hH, hS, by rw [hT]; exact ⟨⟨_, hR2, zgat hg1⟩, fun q h1 h2 => (hkf q (by omega)).trans (hfr q h1 h2), hsz⟩⟩
        · have hT : zA st rc sd told mb (i + 1) = zAn.mk (zsend (zA st rc sd told mb i).st rc sd (zA st rc sd told mb i).byt none (zA st rc sd told mb i).part) ((zA st rc sd told mb i).parts + 1) [k0] (3 + zwo st.wt k0) := by rw [hs1]; unfold zan; rw [if_neg (by omega), if_pos (by rw [hwt1]; exact ⟨b4, b5⟩), hwt1]
          have hok2 : zOK n (zsend (zA st rc sd told mb i).st rc sd (zA st rc sd told mb i).byt none (zA st rc sd told mb i).part) := by have h9 := zA_ok hok hn (told := told) (mb := mb) hrc hsd (i + 1) b1; rw [hT] at h9; exact h9.1
          have hwt2 : (zsend (zA st rc sd told mb i).st rc sd (zA st rc sd told mb i).byt none (zA st rc sd told mb i).part).wt = st.wt := (zsend_wt _ _ _ _ _ _).trans hwt1
          have hv3 : zval n (zsend (zA st rc sd told mb i).st rc sd (zA st rc sd told mb i).byt none (zA st rc sd told mb i).part).wt k0 := by rw [hwt2]; exact hv1
          refine lv_aload_n hx hb dR_answer_84 rfl (lv_at hl 1 rfl) ?_
          refine lv_iload_n hx hb dR_answer_85 rfl (lv_at hl 2 rfl) ?_
          refine lv_iload_n hx hb dR_answer_86 rfl (lv_at hl 3 rfl) ?_
          refine lv_iload hx hb dR_answer_87 (lv_at hl 5 rfl) ?_
          refine lv_lconst (v := 0) hx hb dR_answer_89 (by decide) ?_
          refine zr_Vi (As := [.int (nI rc), .int (nI sd), .int (nI ((zA st rc sd told mb i).part.length)), .long 0]) (rest := []) (q := (RR, TR, 22)) (mc := 0) (ms := 0) ⟨hx, hb, hml, hown, hz⟩ (kR_send l G B Mi _ x z n mb (zA st rc sd told mb i).st th (zA st rc sd told mb i).parts Y1 hn hR1 rc sd (zA st rc sd told mb i).byt none (zA st rc sd told mb i).part 0 (zOK.chs hok1) (fun k e => by cases e) hg1 (by omega) hok1.fl (Or.inl rfl)) (zt_V zm_483 zm_485 zs_19 zm_3 zm_486) rfl rfl rfl (show _ ∧ _ ∧ _ ∧ _ = some 4 from by decide +kernel) ⟨Nat.le_of_ble_eq_true rfl, Nat.le_of_ble_eq_true rfl⟩ zE_blind (zE_at hE hS) hH hK hx0 rfl rfl hS hl.1 rfl (Nat.le_of_ble_eq_true rfl) dR_answer_90 ⟨Nat.le_of_ble_eq_true rfl, Nat.le_of_ble_eq_true rfl⟩ (fun r2 M2 sz2 H2 L2 hp hH hz1 hz2 hS => ?_)
          obtain ⟨rfl, ⟨Y2, hR2⟩, hfr2, hz3⟩ := hp
          have hsz : H2.size = sz := hz1.trans (hz3.trans hsz)
          have hR2 : zRR G M2 x z n mb _ th _ Y2 := hR2
          have hfr2 : zrf x z Mi M2 := hfr2
          have hx0 := hR2.obj
          have hpart := hR2.part
          have hxz := hR2.xz
          refine lv_istore (lv' := [(9, .int (nI (zA st rc sd told mb i).st.se)), (8, .int (nI k0)), (0, .ref x), (1, .int (nI rc)), (2, .int (nI sd)), (3, .long told), (5, .int (nI ((zA st rc sd told mb i).part.length))), (6, .int (nI ((zA st rc sd told mb i).byt))), (7, .int (nI i))]) hx hb dR_answer_93 hl (by decide) rfl (fun ls hl => ?_)
          refine lv_aload_n hx hb dR_answer_95 rfl (lv_at hl 2 rfl) ?_
          refine lv_dup hx hb dR_answer_96 rfl ?_
          refine va_get (D := G.1) (ci := 2) (v := .int (nI ((zA st rc sd told mb i).parts))) (C := RR) (T := TR) (N := 22) hx hb hz iR hown hK (hH.one hx0) 0 rfl rfl 21 (by decide) (hz _ zm_409) (fun _ h9 => h9) rfl dR_answer_97 ?_
          refine lv_iconst (v := nI 1) hx hb dR_answer_100 (by decide) ?_
          refine lv_iadd hx hb dR_answer_101 ?_
          refine zw_ti (nI_add _ _) ?_
          refine zw_put (D := G.1) (ci := 2) (v := .int (nI (((zA st rc sd told mb i).parts) + 1))) (ty := .int) (C := RR) (T := TR) (N := 22) hx hb hz iR tR tR_ok nR hown hK hH hS hx0 rfl 21 (by decide) (hz _ zm_409) (fun _ h9 => h9) rfl (by decide +kernel) rfl rfl (Nat.le_of_ble_eq_true rfl) dR_answer_102 (fun H3 L3 hH hz1 hS => ?_)
          have hsz : H3.size = sz := hz1.trans hsz
          obtain ⟨M3, hM3⟩ : ∃ Mq, Mq = zw_u M2 x (.inr (2, zoR th n mb z ((zsend (zA st rc sd told mb i).st rc sd (zA st rc sd told mb i).byt none (zA st rc sd told mb i).part).fl.length) ((zsend (zA st rc sd told mb i).st rc sd (zA st rc sd told mb i).byt none (zA st rc sd told mb i).part).se) ((zsend (zA st rc sd told mb i).st rc sd (zA st rc sd told mb i).byt none (zA st rc sd told mb i).part).lo) ((zsend (zA st rc sd told mb i).st rc sd (zA st rc sd told mb i).byt none (zA st rc sd told mb i).part).go) ((zsend (zA st rc sd told mb i).st rc sd (zA st rc sd told mb i).byt none (zA st rc sd told mb i).part).pa) (((zA st rc sd told mb i).parts) + 1))) := ⟨_, rfl⟩
          have hH : zw_H G.1 zCl B M3 H3 := by rw [hM3]; exact hH
          have hpart : M3 (z + 12) = some (.inl (G.2.1 0, 480, .inl Y2.part)) := by rw [hM3, zw_un _ _ (by omega)]; exact hpart
          have hx0 : M3 x = some (.inr (2, zoR th n mb z ((zsend (zA st rc sd told mb i).st rc sd (zA st rc sd told mb i).byt none (zA st rc sd told mb i).part).fl.length) ((zsend (zA st rc sd told mb i).st rc sd (zA st rc sd told mb i).byt none (zA st rc sd told mb i).part).se) ((zsend (zA st rc sd told mb i).st rc sd (zA st rc sd told mb i).byt none (zA st rc sd told mb i).part).lo) ((zsend (zA st rc sd told mb i).st rc sd (zA st rc sd told mb i).byt none (zA st rc sd told mb i).part).go) ((zsend (zA st rc sd told mb i).st rc sd (zA st rc sd told mb i).byt none (zA st rc sd told mb i).part).pa) (((zA st rc sd told mb i).parts) + 1))) := by rw [hM3]; exact zw_us _ _ _
          refine lv_iconst (v := nI 0) hx hb dR_answer_105 (by decide) ?_
          refine lv_istore (lv' := [(5, .int (nI 0)), (9, .int (nI (zA st rc sd told mb i).st.se)), (8, .int (nI k0)), (0, .ref x), (1, .int (nI rc)), (2, .int (nI sd)), (3, .long told), (6, .int (nI ((zA st rc sd told mb i).byt))), (7, .int (nI i))]) hx hb dR_answer_106 hl (by decide) rfl (fun ls hl => ?_)
          refine lv_iconst (v := nI 3) hx hb dR_answer_108 (by decide) ?_
          refine lv_istore (lv' := [(6, .int (nI 3)), (5, .int (nI 0)), (9, .int (nI (zA st rc sd told mb i).st.se)), (8, .int (nI k0)), (0, .ref x), (1, .int (nI rc)), (2, .int (nI sd)), (3, .long told), (7, .int (nI i))]) hx hb dR_answer_109 hl (by decide) rfl (fun ls hl => ?_)
          refine lv_aload_n hx hb dR_answer_111 rfl (lv_at hl 4 rfl) ?_
          refine va_get (D := G.1) (ci := 2) (v := .ref (z + 12)) (C := RR) (T := TR) (N := 22) hx hb hz iR hown hK (hH.one hx0) 0 rfl rfl 20 (by decide) (hz _ zm_408) (fun _ h9 => h9) rfl dR_answer_112 ?_
          refine lv_iload hx hb dR_answer_115 (lv_at hl 1 rfl) ?_
          refine lv_iload hx hb dR_answer_117 (lv_at hl 3 rfl) ?_
          refine zw_iast hx hb hK hH hS 0 hpart rfl (0) rfl (by omega) (by decide) dR_answer_119 (fun H4 L4 hH hz1 hS => ?_)
          have hsz : H4.size = sz := hz1.trans hsz
          obtain ⟨M4, hM4⟩ : ∃ Mq, Mq = zw_u M3 (z + 12) (.inl (G.2.1 0, 480, .inl (upd Y2.part 0 (nI k0)))) := ⟨_, rfl⟩
          have hH : zw_H G.1 zCl B M4 H4 := by rw [hM4]; exact hH
          have hx0 : M4 x = some (.inr (2, zoR th n mb z ((zsend (zA st rc sd told mb i).st rc sd (zA st rc sd told mb i).byt none (zA st rc sd told mb i).part).fl.length) ((zsend (zA st rc sd told mb i).st rc sd (zA st rc sd told mb i).byt none (zA st rc sd told mb i).part).se) ((zsend (zA st rc sd told mb i).st rc sd (zA st rc sd told mb i).byt none (zA st rc sd told mb i).part).lo) ((zsend (zA st rc sd told mb i).st rc sd (zA st rc sd told mb i).byt none (zA st rc sd told mb i).part).go) ((zsend (zA st rc sd told mb i).st rc sd (zA st rc sd told mb i).byt none (zA st rc sd told mb i).part).pa) (((zA st rc sd told mb i).parts) + 1))) := by rw [hM4, zw_un _ _ (by omega)]; exact hx0
          have hpart : M4 (z + 12) = some (.inl (G.2.1 0, 480, .inl (upd Y2.part 0 (nI k0)))) := by rw [hM4]; exact zw_us _ _ _
          have hkf : ∀ a : Nat, a ≠ x → M3 a = M2 a := fun a h1 => by rw [hM3, zw_un _ _ h1]
          have hkg : ∀ a : Nat, a ≠ z + 12 → M4 a = M3 a := fun a h1 => by rw [hM4, zw_un _ _ h1]
          have hx2 : M3 x = _ := (hkg x (by omega)).symm.trans hx0
          have hR3 : zRR G M3 x z n mb (zsend (zA st rc sd told mb i).st rc sd (zA st rc sd told mb i).byt none (zA st rc sd told mb i).part) th ((zA st rc sd told mb i).parts + 1) Y2 := hR2.cnt (st' := (zsend (zA st rc sd told mb i).st rc sd (zA st rc sd told mb i).byt none (zA st rc sd told mb i).part)) rfl rfl rfl rfl hx2 (fun a e h1 h2 => (hkf a h1).trans h2)
          have hR4 : zRR G M4 x z n mb (zsend (zA st rc sd told mb i).st rc sd (zA st rc sd told mb i).byt none (zA st rc sd told mb i).part) th ((zA st rc sd told mb i).parts + 1) (zRX.mk Y2.rw Y2.nu Y2.fr Y2.to Y2.si Y2.cl Y2.ins (upd Y2.part 0 (nI k0))) := hR3.prt (fun a e h1 h2 => (hkg a h1).trans h2) hpart
          refine lv_iinc (v := (nI (0 + 1))) (lv' := [(5, .int (nI (0 + 1))), (6, .int (nI 3)), (9, .int (nI (zA st rc sd told mb i).st.se)), (8, .int (nI k0)), (0, .ref x), (1, .int (nI rc)), (2, .int (nI sd)), (3, .long told), (7, .int (nI i))]) hx hb dR_answer_120 hl (k := 1) rfl (nI_add _ _) (by decide) rfl (fun ls hl => ?_)
          refine lv_iload hx hb dR_answer_123 (lv_at hl 1 rfl) ?_
          refine lv_aload_n hx hb dR_answer_125 rfl (lv_at hl 4 rfl) ?_
          refine lv_iload hx hb dR_answer_126 (lv_at hl 3 rfl) ?_
          refine zr_V (As := [.int (nI k0)]) (rest := [.int (nI 3)]) (q := (RR, TR, 22)) ⟨hx, hb, hml, hown, hz⟩ (kR_weightOf l G B M4 x z n mb (zsend (zA st rc sd told mb i).st rc sd (zA st rc sd told mb i).byt none (zA st rc sd told mb i).part) th ((zA st rc sd told mb i).parts + 1) _ hn hR4 hok2 k0 hv3) (zt_V zm_504 zm_506 zs_23 zm_3 zm_507) rfl rfl rfl (show _ ∧ _ ∧ _ ∧ _ = some 1 from by decide +kernel) ⟨Nat.le_of_ble_eq_true rfl, Nat.le_of_ble_eq_true rfl⟩ zE_blind (zE_at hE hS) hH hK hx0 rfl rfl hl.1 rfl (Nat.le_of_ble_eq_true rfl) dR_answer_128 ⟨Nat.le_of_ble_eq_true rfl, Nat.le_of_ble_eq_true rfl⟩ ?_
          refine zw_ti (show nI (zwo (zsend (zA st rc sd told mb i).st rc sd (zA st rc sd told mb i).byt none (zA st rc sd told mb i).part).wt k0) = nI (zwo st.wt k0) from by rw [hwt2]) ?_
          refine lv_iadd hx hb dR_answer_131 ?_
          refine zw_ti (nI_add _ _) ?_
          refine lv_istore (lv' := [(6, .int (nI (3 + (zwo st.wt k0)))), (5, .int (nI (0 + 1))), (9, .int (nI (zA st rc sd told mb i).st.se)), (8, .int (nI k0)), (0, .ref x), (1, .int (nI rc)), (2, .int (nI sd)), (3, .long told), (7, .int (nI i))]) hx hb dR_answer_132 hl (by decide) rfl (fun ls hl => ?_)
          refine lv_iinc (v := (nI (i + 1))) (lv' := [(7, .int (nI (i + 1))), (6, .int (nI (3 + (zwo st.wt k0)))), (5, .int (nI (0 + 1))), (9, .int (nI (zA st rc sd told mb i).st.se)), (8, .int (nI k0)), (0, .ref x), (1, .int (nI rc)), (2, .int (nI sd)), (3, .long told)]) hx hb dR_answer_134 hl (k := 8) rfl (nI_add _ _) (by decide) rfl (fun ls hl => ?_)
          refine lv_goto (tgt := 14) hx hb dR_answer_137 (by decide) ?_
          exact ih b1 ls H4 _ ⟨lv_sub hl [5, 6, 7, 8, 2, 1, 0] (by rw [hT]; rfl), M4, hH, hS, by rw [hT]; exact ⟨⟨_, hR4, fun k hk => by have hk : k < 1 := hk; rw [show k = 0 by omega]; exact (show upd Y2.part 0 (nI k0) 0 = nI k0 from if_pos rfl)⟩, fun q h1 h2 => (hkg q (by omega)).trans ((hkf q h1).trans ((hfr.tr hfr2) q h1 h2)), hsz⟩⟩

