/-! THE CLASS: takeChanges, answer -/
set_option maxHeartbeats 4000000 in
set_option maxRecDepth 100000 in
theorem kC_takeChanges (l : Launch) (G : zG) (B : Nat) (M : zw_M) (sz : Nat) (x z L n mb : Nat) (st : zSt) (qs : List Nat) (g : Nat → Int32) (hn : n ≤ 8) (hR : zCR G M x z L n mb st qs g) (hok : zOK n st) (q ch rc : Nat) (num sd byt : Int32) (hqL : L < q) (hq0 : M q = some (.inr (0, zoM num sd (nI rc) byt (-1) ch))) (hrc : rc < n) (hcL : L < ch) (chs : List Nat) (f : Nat → Int32) (hch : M ch = some (.inl (G.2.1 0, chs.length, .inl f))) (hf : ∀ k, k < chs.length → f k = nI (chs.getD k 0)) (hval : ∀ d ∈ chs, zval n st.wt d) (h480 : chs.length ≤ 480) : Met l yC_takeChanges (Cond.code yC_takeChanges bC_takeChanges 7 (some .int) :: zT) { frames := 2, cells := 0, slots := 0, locals := 50 } (zq G B M sz [.ref x, .ref q]) (va_Qi (fun (r : Int32) (u : zw_M × Nat) => r = nI (chs.foldl (zta rc) (st, 0)).2 ∧ zCO G x z L n mb sz M ((chs.foldl (zta rc) (st, 0)).1) u) (zr_o G.1 zCl B) (zw_A B)) (0) (0) (zw_A B) := by
  refine Met.ofW (cc := bC_takeChanges) (maxL := 7) (ret := (some .int)) (by decide) rfl ?_
  intro p e s m args below meth c s₁ B0 hml hv
  obtain ⟨rfl, hE, hH, hsz⟩ := hv
  have hx := B0.exec
  have hb := B0.bytes
  have hr := B0.returns
  have hlocks := B0.notSynchronized
  have hz : ∀ w ∈ zT, w.before _ s = true := fun w h => atoms_spec (ws := Cond.code yC_takeChanges bC_takeChanges 7 (some .int) :: zT) B0.pre w (List.mem_cons_of_mem _ h)
  have hown : s.vm.findClass RC = some m.cls := findClass_of_methodNamed B0.named
  have hK := hE.1
  have hl := lv_entry ([.ref x, .ref q]) (n := 7) (Nat.le_of_ble_eq_true rfl)
  rw [lg_entry_eq]
  generalize (lg_sl ([.ref x, .ref q]) ++ List.replicate (7 - (lg_sl ([.ref x, .ref q])).length) Slot.unset).toArray = ls at hl ⊢
  have hl : lv_has ls 7 [(0, .ref x), (1, .ref q)] := hl
  have hS : va_S (zw_A B) s.heap s.heap [] := va_S.rf
  have hin : meth.name = "takeChanges" := (name_of_methodNamed B0.named B0.method).1
  have hlt0 : ∀ (a : Nat) (e : va_E), M a = some e → a < sz := fun a e h => by rw [← hsz]; exact hH.lt h
  have hqz := hlt0 q _ hq0
  have hcz := hlt0 ch _ hch
  refine lv_iconst (v := nI 0) hx hb dC_takeChanges_0 (by decide) ?_
  refine lv_istore_n (lv' := [(2, .int (nI 0)), (0, .ref x), (1, .ref q)]) hx hb dC_takeChanges_1 rfl hl (by decide) rfl (fun ls hl => ?_)
  refine lv_aload_n hx hb dC_takeChanges_2 rfl (lv_at hl 2 rfl) ?_
  refine va_get (D := G.1) (ci := 0) (v := .ref ch) (C := RM) (T := TM) (N := 6) hx hb hz iM hown hK (hH.one hq0) 0 rfl rfl 5 (by decide) (hz _ zm_294) (fun _ h9 => h9) rfl dC_takeChanges_3 ?_
  refine lv_astore_n (lv' := [(3, .ref ch), (2, .int (nI 0)), (0, .ref x), (1, .ref q)]) hx hb dC_takeChanges_6 rfl hl (by decide) rfl (fun ls hl => ?_)
  refine lv_aload_n hx hb dC_takeChanges_7 rfl (lv_at hl 0 rfl) ?_
  refine zw_alen hx hb hK hH 0 hch rfl dC_takeChanges_8 ?_
  refine zw_ti (v' := nI chs.length) rfl ?_
  refine lv_istore (lv' := [(4, .int (nI chs.length)), (3, .ref ch), (2, .int (nI 0)), (0, .ref x), (1, .ref q)]) hx hb dC_takeChanges_9 hl (by decide) rfl (fun ls hl => ?_)
  refine lv_iconst (v := nI 0) hx hb dC_takeChanges_11 (by decide) ?_
  refine lv_istore (lv' := [(5, .int (nI 0)), (4, .int (nI chs.length)), (3, .ref ch), (2, .int (nI 0)), (0, .ref x), (1, .ref q)]) hx hb dC_takeChanges_12 hl (by decide) rfl (fun ls hl => ?_)
  refine zl_upH (Wg := fun ls H locs => W p l e _ s m _ below meth c H locs 0 0 _ (F0 m 14 ls [])) (fun i ls H locs => lv_has ls 7 [(0, .ref x), (1, .ref q), (2, .int (nI ((zT2 st rc chs i).2))), (3, .ref ch), (4, .int (nI chs.length)), (5, .int (nI i))] ∧ ∃ Mq : zw_M, zw_H G.1 zCl B Mq H ∧ va_S (zw_A B) s.heap H locs ∧ zCO G x z L n mb sz M (zT2 st rc chs i).1 (Mq, H.size)) chs.length ?_ (i := 0) (by omega) ⟨lv_sub hl [4, 5, 3, 2, 1, 0] rfl, M, hH, hS, ⟨⟨qs, g, hR⟩, zfr.rf, by show sz ≤ s.heap.size; omega⟩⟩
  intro i hi ls Hi Li ⟨hl, Mi, hH, hS, hI⟩ ih
  have hl : lv_has ls 7 [(0, .ref x), (1, .ref q), (2, .int (nI ((zT2 st rc chs i).2))), (3, .ref ch), (4, .int (nI chs.length)), (5, .int (nI i))] := hl
  obtain ⟨⟨qs1, g1, hR1⟩, hfr, hszi⟩ := hI
  obtain ⟨hok1, hwt1⟩ := zT2_ok hok hrc hval i
  have hxz := hR1.xz
  have hzL := hR1.zL
  have hq1 : Mi q = _ := (hfr q (by omega) (Or.inr (by omega)) hqz).trans hq0
  have hch1 : Mi ch = _ := (hfr ch (by omega) (Or.inr (by omega)) hcz).trans hch
  refine lv_iload hx hb dC_takeChanges_14 (lv_at hl 5 rfl) ?_
  refine lv_iload hx hb dC_takeChanges_16 (lv_at hl 4 rfl) ?_
  refine zc_ge (tgt := 62) hx hb dC_takeChanges_18 (by decide) (by omega) (by omega) (fun b1 => ?_) (fun b1 => ?_)
  · have e1 : chs.length = i := by omega
    refine lv_iload_n hx hb dC_takeChanges_62 rfl (lv_at hl 2 rfl) ?_
    rw [← zT2_e, e1]
    exact W.iret (v := (nI ((zT2 st rc chs i).2))) hx hb hr (fun t ht hW => ⟨⟨(nI ((zT2 st rc chs i).2)), (Mi, Hi.size), rfl, ⟨rfl, ⟨qs1, g1, hR1⟩, hfr, hszi⟩, by rw [ht]; exact hH, by rw [ht]⟩, hS.F ht⟩) hS.2.2 dC_takeChanges_63
  · have hs1 := zT2_s st rc chs b1
    have hv1 := hval _ (zget_mem b1)
    obtain ⟨k0, hk0⟩ : ∃ q, q = chs.getD i 0 := ⟨_, rfl⟩
    rw [← hk0] at hs1 hv1
    have hv2 : zval n (zT2 st rc chs i).1.wt k0 := by rw [hwt1]; exact hv1
    have hx0 := hR1.obj
    have hxz := hR1.xz
    have hzL := hR1.zL
    refine lv_aload_n hx hb dC_takeChanges_21 rfl (lv_at hl 3 rfl) ?_
    refine lv_iload hx hb dC_takeChanges_22 (lv_at hl 5 rfl) ?_
    refine zw_iald hx hb hK hH 0 hch1 rfl (i) rfl (b1) (by omega) dC_takeChanges_24 ?_
    refine zw_ti ((hf i b1).trans (congrArg nI hk0.symm)) ?_
    refine lv_istore (lv' := [(6, .int (nI k0)), (0, .ref x), (1, .ref q), (2, .int (nI ((zT2 st rc chs i).2))), (3, .ref ch), (4, .int (nI chs.length)), (5, .int (nI i))]) hx hb dC_takeChanges_25 hl (by decide) rfl (fun ls hl => ?_)
    refine lv_aload_n hx hb dC_takeChanges_27 rfl (lv_at hl 1 rfl) ?_
    refine lv_aload_n hx hb dC_takeChanges_28 rfl (lv_at hl 2 rfl) ?_
    refine va_get (D := G.1) (ci := 0) (v := .int (nI rc)) (C := RM) (T := TM) (N := 6) hx hb hz iM hown hK (hH.one hq1) 0 rfl rfl 2 (by decide) (hz _ zm_288) (fun _ h9 => h9) rfl dC_takeChanges_29 ?_
    refine lv_iload hx hb dC_takeChanges_32 (lv_at hl 0 rfl) ?_
    by_cases hfit : zfits (zT2 st rc chs i).1 rc k0
    · refine zr_Vi (As := [.int (nI rc), .int (nI k0)]) (rest := []) (q := (RC, TC, 14)) (mc := 0) (ms := 0) ⟨hx, hb, hml, hown, hz⟩ (kC_comes_yes l G B Mi _ x z L n mb (zT2 st rc chs i).1 qs1 g1 hn hR1 rc k0 hrc (zval.lt hn hok1 hv2) (hok1.b8 hrc) hfit (hok1.len2 hrc hv2 hfit)) (zt_V zm_250 zm_252 zs_8 zm_1 zm_253) rfl rfl rfl (show _ ∧ _ ∧ _ ∧ _ = some 2 from by decide +kernel) ⟨Nat.le_of_ble_eq_true rfl, Nat.le_of_ble_eq_true rfl⟩ zE_blind (zE_at hE hS) hH hK hx0 rfl rfl hS hl.1 rfl (Nat.le_of_ble_eq_true rfl) dC_takeChanges_34 ⟨Nat.le_of_ble_eq_true rfl, Nat.le_of_ble_eq_true rfl⟩ (fun r1 M1 sz1 H1 L1 hp hH hz1 hz2 hS => ?_)
      obtain ⟨rfl, hR2, hk2, hz3⟩ := hp
      have hT : zT2 st rc chs (i + 1) = (zlog (zT2 st rc chs i).1 rc k0, (zT2 st rc chs i).2 + 1) := by rw [hs1]; exact if_pos hfit
      have hk2 : ∀ a : Nat, a ≠ z + 3 + rc → a ≠ z + 3 + n → a ≠ z + 1 → M1 a = Mi a := hk2
      refine zc_eq0 (tgt := 46) hx hb dC_takeChanges_37 (by decide) (by omega) (fun b2 => ?_) (fun b2 => ?_)
      · exact absurd b2 (by decide)
      · refine lv_iinc (v := (nI (((zT2 st rc chs i).2) + 1))) (lv' := [(2, .int (nI (((zT2 st rc chs i).2) + 1))), (6, .int (nI k0)), (0, .ref x), (1, .ref q), (3, .ref ch), (4, .int (nI chs.length)), (5, .int (nI i))]) hx hb dC_takeChanges_40 hl (k := 3) rfl (nI_add _ _) (by decide) rfl (fun ls hl => ?_)
        refine lv_goto (tgt := 56) hx hb dC_takeChanges_43 (by decide) ?_
        refine lv_iinc (v := (nI (i + 1))) (lv' := [(5, .int (nI (i + 1))), (2, .int (nI (((zT2 st rc chs i).2) + 1))), (6, .int (nI k0)), (0, .ref x), (1, .ref q), (3, .ref ch), (4, .int (nI chs.length))]) hx hb dC_takeChanges_56 hl (k := 6) rfl (nI_add _ _) (by decide) rfl (fun ls hl => ?_)
        refine lv_goto (tgt := 14) hx hb dC_takeChanges_59 (by decide) ?_
        exact ih b1 ls H1 _ ⟨lv_sub hl [3, 4, 1, 5, 6, 0] (by rw [hT]; rfl), M1, hH, hS, ⟨⟨qs1, g1, by rw [hT]; exact hR2⟩, fun a h1 h2 h3 => (hk2 a (by omega) (by omega) (by omega)).trans (hfr a h1 h2 h3), Nat.le_trans hszi hz2⟩⟩
    · refine zr_Vi (As := [.int (nI rc), .int (nI k0)]) (rest := []) (q := (RC, TC, 14)) (mc := 0) (ms := 0) ⟨hx, hb, hml, hown, hz⟩ (kC_comes_no l G B Mi _ x z L n mb (zT2 st rc chs i).1 qs1 g1 hn hR1 rc k0 hrc (zval.lt hn hok1 hv2) (hok1.b8 hrc) hfit) (zt_V zm_250 zm_252 zs_8 zm_1 zm_253) rfl rfl rfl (show _ ∧ _ ∧ _ ∧ _ = some 2 from by decide +kernel) ⟨Nat.le_of_ble_eq_true rfl, Nat.le_of_ble_eq_true rfl⟩ zE_blind (zE_at hE hS) hH hK hx0 rfl rfl hS hl.1 rfl (Nat.le_of_ble_eq_true rfl) dC_takeChanges_34 ⟨Nat.le_of_ble_eq_true rfl, Nat.le_of_ble_eq_true rfl⟩ (fun r1 M1 sz1 H1 L1 hp hH hz1 hz2 hS => ?_)
      obtain ⟨rfl, hp⟩ := hp
      have hM1 : M1 = Mi := (Prod.mk.inj hp).1
      rw [← hM1] at hx0 hR1 hfr
      have hT : zT2 st rc chs (i + 1) = (zpass (zT2 st rc chs i).1, (zT2 st rc chs i).2) := by rw [hs1]; exact if_neg hfit
      refine zc_eq0 (tgt := 46) hx hb dC_takeChanges_37 (by decide) (by omega) (fun b2 => ?_) (fun b2 => ?_)
      · refine lv_aload_n hx hb dC_takeChanges_46 rfl (lv_at hl 1 rfl) ?_
        refine lv_dup hx hb dC_takeChanges_47 rfl ?_
        refine va_get (D := G.1) (ci := 1) (v := .int (nI ((zT2 st rc chs i).1.pa))) (C := RC) (T := TC) (N := 14) hx hb hz iC hown hK (hH.one hx0) 0 rfl rfl 13 (by decide) (hz _ zm_44) (fun _ h9 => h9) rfl dC_takeChanges_48 ?_
        refine lv_iconst (v := nI 1) hx hb dC_takeChanges_51 (by decide) ?_
        refine lv_iadd hx hb dC_takeChanges_52 ?_
        refine zw_ti (nI_add _ _) ?_
        have hszo := hsz
        have hsz : H1.size = H1.size := rfl
        refine zw_put (D := G.1) (ci := 1) (v := .int (nI (((zT2 st rc chs i).1.pa) + 1))) (ty := .int) (C := RC) (T := TC) (N := 14) hx hb hz iC tC tC_ok nC hown hK hH hS hx0 rfl 13 (by decide) (hz _ zm_44) (fun _ h9 => h9) rfl (by decide +kernel) rfl rfl (Nat.le_of_ble_eq_true rfl) dC_takeChanges_53 (fun H2 L2 hH hz1 hS => ?_)
        have hsz : H2.size = H1.size := hz1
        obtain ⟨M2, hM2⟩ : ∃ Mq, Mq = zw_u M1 x (.inr (1, zoC n mb z ((zT2 st rc chs i).1.fl.length) ((zT2 st rc chs i).1.se) ((zT2 st rc chs i).1.lo) ((zT2 st rc chs i).1.go) (((zT2 st rc chs i).1.pa) + 1))) := ⟨_, rfl⟩
        have hH : zw_H G.1 zCl B M2 H2 := by rw [hM2]; exact hH
        have hx0 : M2 x = some (.inr (1, zoC n mb z ((zT2 st rc chs i).1.fl.length) ((zT2 st rc chs i).1.se) ((zT2 st rc chs i).1.lo) ((zT2 st rc chs i).1.go) (((zT2 st rc chs i).1.pa) + 1))) := by rw [hM2]; exact zw_us _ _ _
        refine lv_iinc (v := (nI (i + 1))) (lv' := [(5, .int (nI (i + 1))), (6, .int (nI k0)), (0, .ref x), (1, .ref q), (2, .int (nI ((zT2 st rc chs i).2))), (3, .ref ch), (4, .int (nI chs.length))]) hx hb dC_takeChanges_56 hl (k := 6) rfl (nI_add _ _) (by decide) rfl (fun ls hl => ?_)
        refine lv_goto (tgt := 14) hx hb dC_takeChanges_59 (by decide) ?_
        have hk2 : ∀ a : Nat, a ≠ x → M2 a = M1 a := fun a h1 => by rw [hM2, zw_un _ _ h1]
        exact ih b1 ls H2 _ ⟨lv_sub hl [2, 3, 4, 5, 6, 0] (by rw [hT]; rfl), M2, hH, hS, ⟨⟨qs1, g1, by rw [hT]; exact hR1.cnt rfl rfl rfl rfl hx0 (fun a e h1 h2 => (hk2 a h1).trans h2)⟩, fun a h1 h2 h3 => (hk2 a h1).trans (hfr a h1 h2 h3), by show sz ≤ H2.size; omega⟩⟩
      · exact absurd rfl b2

