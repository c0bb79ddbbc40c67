/-! THE CLASS: answer -/
theorem zgat {g1 : Nat → Int32} {L : List Nat} {c : Nat} (h : ∀ k, k < L.length → g1 k = nI (L.getD k 0)) : ∀ k, k < (L ++ [c]).length → upd g1 L.length (nI c) k = nI ((L ++ [c]).getD k 0) := by
  intro k hk
  rw [List.length_append] at hk
  have hk : k < L.length + 1 := hk
  rw [List.getD_eq_getElem?_getD]
  unfold upd
  by_cases e : k = L.length
  · rw [if_pos e, e]; simp
  · rw [if_neg e, h k (by omega), List.getD_eq_getElem?_getD, List.getElem?_append_left (by omega)]
set_option maxHeartbeats 600000 in
set_option maxRecDepth 100000 in
theorem kC_answer (l : Launch) (G : zG) (B : Nat) (M : zw_M) (sz : Nat) (x z L n mb : Nat) (st : zSt) (qs : List Nat) (g : Nat → Int32) (hn : n ≤ 8) (hR : zCR G M x z L n mb st qs g) (hL : L < sz) (hok : zOK n st) (q rc sd : Nat) (num byt : Int32) (told : Int64) (ch : Nat) (hqL : L < q) (hq0 : M q = some (.inr (0, zoM num (nI sd) (nI rc) byt told ch))) (hrc : rc < n) (hsd : sd < n) (hmb : mb ≤ 2000) : Met l yC_answer (Cond.code yC_answer bC_answer 9 (some .int) :: zT) { frames := 3, cells := 960, slots := 3360, locals := 110 } (zq G B M sz [.ref x, .ref q]) (va_Qi (fun (r : Int32) (u : zw_M × Nat) => r = nI (zanswer st rc sd told mb).2 ∧ zCO G x z L n mb sz M ((zanswer st rc sd told mb).1) u) (zr_o G.1 zCl B) (zw_A B)) (960) (3360) (zw_A B) := by
  refine Met.ofW (cc := bC_answer) (maxL := 9) (ret := (some .int)) (by decide) rfl ?_
  intro p e s m args below meth c s₁ B0 hml hv
  obtain ⟨rfl, hE, hH, hsz⟩ := hv
  have hx := B0.exec
  have hb := B0.bytes
  have hr := B0.returns
  have hlocks := B0.notSynchronized
  have hz : ∀ w ∈ zT, w.before _ s = true := fun w h => atoms_spec (ws := Cond.code yC_answer bC_answer 9 (some .int) :: zT) B0.pre w (List.mem_cons_of_mem _ h)
  have hown : s.vm.findClass RC = some m.cls := findClass_of_methodNamed B0.named
  have hK := hE.1
  have hl := lv_entry ([.ref x, .ref q]) (n := 9) (Nat.le_of_ble_eq_true rfl)
  rw [lg_entry_eq]
  generalize (lg_sl ([.ref x, .ref q]) ++ List.replicate (9 - (lg_sl ([.ref x, .ref q])).length) Slot.unset).toArray = ls at hl ⊢
  have hl : lv_has ls 9 [(0, .ref x), (1, .ref q)] := hl
  have hS : va_S (zw_A B) s.heap s.heap [] := va_S.rf
  have hin : meth.name = "answer" := (name_of_methodNamed B0.named B0.method).1
  have hlt0 : ∀ (a : Nat) (e : va_E), M a = some e → a < sz := fun a e h => by rw [← hsz]; exact hH.lt h
  have hqz := hlt0 q _ hq0
  have hlen := hok.len hrc
  refine lv_aload_n hx hb dC_answer_0 rfl (lv_at hl 1 rfl) ?_
  refine va_get (D := G.1) (ci := 0) (v := .int (nI rc)) (C := RM) (T := TM) (N := 6) hx hb hz iM hown hK (hH.one hq0) 0 rfl rfl 2 (by decide) (hz _ zm_288) (fun _ h9 => h9) rfl dC_answer_1 ?_
  refine lv_istore_n (lv' := [(2, .int (nI rc)), (0, .ref x), (1, .ref q)]) hx hb dC_answer_4 rfl hl (by decide) rfl (fun ls hl => ?_)
  refine lv_iconst (v := nI 0) hx hb dC_answer_5 (by decide) ?_
  refine lv_istore_n (lv' := [(3, .int (nI 0)), (2, .int (nI rc)), (0, .ref x), (1, .ref q)]) hx hb dC_answer_6 rfl hl (by decide) rfl (fun ls hl => ?_)
  refine lv_iconst (v := nI 0) hx hb dC_answer_7 (by decide) ?_
  refine lv_istore (lv' := [(4, .int (nI 0)), (3, .int (nI 0)), (2, .int (nI rc)), (0, .ref x), (1, .ref q)]) hx hb dC_answer_8 hl (by decide) rfl (fun ls hl => ?_)
  refine lv_iconst (v := nI 3) hx hb dC_answer_10 (by decide) ?_
  refine lv_istore (lv' := [(5, .int (nI 3)), (4, .int (nI 0)), (3, .int (nI 0)), (2, .int (nI rc)), (0, .ref x), (1, .ref q)]) hx hb dC_answer_11 hl (by decide) rfl (fun ls hl => ?_)
  refine lv_iconst (v := nI 0) hx hb dC_answer_13 (by decide) ?_
  refine lv_istore (lv' := [(6, .int (nI 0)), (5, .int (nI 3)), (4, .int (nI 0)), (3, .int (nI 0)), (2, .int (nI rc)), (0, .ref x), (1, .ref q)]) hx hb dC_answer_14 hl (by decide) rfl (fun ls hl => ?_)
  refine zl_upC (Wg := fun ls H locs ce sl => W p l e _ s m _ below meth c H locs ce sl _ (F0 m 16 ls [])) (fun i ls H locs ce sl => lv_has ls 9 [(0, .ref x), (1, .ref q), (2, .int (nI rc)), (3, .int (nI ((zA st rc sd told mb i).parts))), (4, .int (nI ((zA st rc sd told mb i).part.length))), (5, .int (nI ((zA st rc sd told mb i).byt))), (6, .int (nI i))] ∧ (2 * (i - (zA st rc sd told mb i).part.length) = ce ∧ 7 * (i - (zA st rc sd told mb i).part.length) = sl) ∧ ∃ Mq : zw_M, zw_H G.1 zCl B Mq H ∧ va_S (zw_A B) s.heap H locs ∧ (∃ (qs1 : List Nat) (g1 : Nat → Int32), zCR G Mq x z L n mb (zA st rc sd told mb i).st qs1 g1 ∧ ∀ k, k < (zA st rc sd told mb i).part.length → g1 k = nI ((zA st rc sd told mb i).part.getD k 0)) ∧ zfr x z n sz M Mq ∧ sz ≤ H.size) ((st.lg rc).length) ?_ (i := 0) (by omega) ⟨lv_sub hl [5, 6, 4, 3, 2, 1, 0] rfl, ⟨rfl, rfl⟩, M, hH, hS, ⟨⟨qs, g, hR, fun k hk => absurd hk (Nat.not_lt_zero k)⟩, zfr.rf, by show sz ≤ s.heap.size; omega⟩⟩
  intro i hi ls Hi Li ce sl ⟨hl, ⟨hce, hsl⟩, Mi, hH, hS, hI⟩ ih
  subst hce
  subst hsl
  have hl : lv_has ls 9 [(0, .ref x), (1, .ref q), (2, .int (nI rc)), (3, .int (nI ((zA st rc sd told mb i).parts))), (4, .int (nI ((zA st rc sd told mb i).part.length))), (5, .int (nI ((zA st rc sd told mb i).byt))), (6, .int (nI i))] := hl
  obtain ⟨⟨qs1, g1, hR1, hg1⟩, hfr, hszi⟩ := hI
  have hA := zA_ok hok hn (told := told) (mb := mb) hrc hsd i hi
  obtain ⟨hok1, hlg1, hwt1, hpl1, hpv1, hpb1⟩ := hA
  have hbyt : (zA st rc sd told mb i).byt ≤ 3 + 400 * i := zAok.byt hok ⟨hok1, hlg1, hwt1, hpl1, hpv1, hpb1⟩
  have hxz := hR1.xz
  have hzL := hR1.zL
  have hq1 : Mi q = _ := (hfr q (by omega) (Or.inr (by omega)) hqz).trans hq0
  have hx0 := hR1.obj
  have hck := hR1.ck
  have hlgs := hR1.lgs
  have hlz := hR1.lz
  have hwts := hR1.wts
  have hga := hR1.ga
  have hxz := hR1.xz
  have hzL := hR1.zL
  have hlgr := hR1.lg rc hrc
  refine lv_iload hx hb dC_answer_16 (lv_at hl 6 rfl) ?_
  refine lv_aload_n hx hb dC_answer_18 rfl (lv_at hl 0 rfl) ?_
  refine va_get (D := G.1) (ci := 1) (v := .ref (z + 3 + n)) (C := RC) (T := TC) (N := 14) hx hb hz iC hown hK (hH.one hx0) 0 rfl rfl 5 (by decide) (hz _ zm_36) (fun _ h9 => h9) rfl dC_answer_19 ?_
  refine lv_iload_n hx hb dC_answer_22 rfl (lv_at hl 2 rfl) ?_
  refine zw_iald hx hb hK hH 0 hlz rfl (rc) rfl (hrc) (by omega) dC_answer_23 ?_
  refine zw_ti (by show nI ((zA st rc sd told mb i).st.lg rc).length = _; rw [hlg1]) ?_
  refine zc_ge (tgt := 151) hx hb dC_answer_24 (by decide) (by omega) (by omega) (fun b1 => ?_) (fun b1 => ?_)
  · have e1 : (st.lg rc).length = i := by omega
    refine lv_iload hx hb dC_answer_151 (lv_at hl 4 rfl) ?_
    have hend := zA_e st rc sd told mb
    rw [e1] at hend
    rw [← hend]
    refine zc_le0 (tgt := 172) hx hb dC_answer_153 (by decide) (by omega) (fun b2 => ?_) (fun b2 => ?_)
    · refine lv_iload_n hx hb dC_answer_172 rfl (lv_at hl 3 rfl) ?_
      have he2 : zae rc sd (zA st rc sd told mb i) = ((zA st rc sd told mb i).st, (zA st rc sd told mb i).parts) := if_neg (by omega)
      rw [he2]
      refine W.widen (k := 960) (n := 3360) (by omega) (by omega) ?_
      exact W.iret (v := (nI ((zA st rc sd told mb i).parts))) hx hb hr (fun t ht hW => ⟨⟨(nI ((zA st rc sd told mb i).parts)), (Mi, Hi.size), rfl, ⟨rfl, ⟨qs1, g1, hR1⟩, hfr, hszi⟩, by rw [ht]; exact hH, by rw [ht]⟩, hS.F ht⟩) hS.2.2 dC_answer_173
    · refine lv_aload_n hx hb dC_answer_156 rfl (lv_at hl 0 rfl) ?_
      refine lv_iload_n hx hb dC_answer_157 rfl (lv_at hl 2 rfl) ?_
      refine lv_aload_n hx hb dC_answer_158 rfl (lv_at hl 1 rfl) ?_
      refine va_get (D := G.1) (ci := 0) (v := .int (nI sd)) (C := RM) (T := TM) (N := 6) hx hb hz iM hown hK (hH.one hq1) 0 rfl rfl 1 (by decide) (hz _ zm_286) (fun _ h9 => h9) rfl dC_answer_159 ?_
      refine lv_iload hx hb dC_answer_162 (lv_at hl 5 rfl) ?_
      refine lv_iload hx hb dC_answer_164 (lv_at hl 4 rfl) ?_
      refine zr_Vv (As := [.int (nI rc), .int (nI sd), .int (nI ((zA st rc sd told mb i).byt)), .int (nI ((zA st rc sd told mb i).part.length))]) (rest := []) (q := (RC, TC, 14)) (mc := 2) (ms := 6 + (zA st rc sd told mb i).part.length) ⟨hx, hb, hml, hown, hz⟩ (kC_sendGathered l G B Mi _ x z L n mb (zA st rc sd told mb i).st qs1 g1 hn hR1 (by omega) rc sd (zA st rc sd told mb i).byt (zA st rc sd told mb i).part (by omega) hg1 hok1.fl) (zt_V zm_330 zm_332 zs_13 zm_1 zm_333) rfl rfl rfl (show _ ∧ _ ∧ _ ∧ _ = some 4 from by decide +kernel) ⟨Nat.le_of_ble_eq_true rfl, Nat.le_of_ble_eq_true rfl⟩ zE_blind (zE_at hE hS) hH hK hx0 rfl rfl hS hl.1 rfl (Nat.le_of_ble_eq_true rfl) dC_answer_166 ⟨by show 2 * (i - (zA st rc sd told mb i).part.length) + 2 ≤ 960; omega, by show 7 * (i - (zA st rc sd told mb i).part.length) + (6 + (zA st rc sd told mb i).part.length) ≤ 3360; omega⟩ (fun M1 sz1 H1 L1 hp hH hz1 hz2 hS => ?_)
      obtain ⟨hR2, hfr2, hz3⟩ := hp
      refine lv_iinc (v := (nI (((zA st rc sd told mb i).parts) + 1))) (lv' := [(3, .int (nI (((zA st rc sd told mb i).parts) + 1))), (0, .ref x), (1, .ref q), (2, .int (nI rc)), (4, .int (nI ((zA st rc sd told mb i).part.length))), (5, .int (nI ((zA st rc sd told mb i).byt))), (6, .int (nI i))]) hx hb dC_answer_169 hl (k := 3) rfl (nI_add _ _) (by decide) rfl (fun ls hl => ?_)
      refine lv_iload_n hx hb dC_answer_172 rfl (lv_at hl 0 rfl) ?_
      have he2 : zae rc sd (zA st rc sd told mb i) = (zsend (zA st rc sd told mb i).st rc sd (zA st rc sd told mb i).byt none (zA st rc sd told mb i).part, (zA st rc sd told mb i).parts + 1) := if_pos b2
      rw [he2]
      refine W.widen (k := 960) (n := 3360) (by omega) (by omega) ?_
      exact W.iret (v := (nI (((zA st rc sd told mb i).parts) + 1))) hx hb hr (fun t ht hW => ⟨⟨(nI (((zA st rc sd told mb i).parts) + 1)), (M1, H1.size), rfl, ⟨rfl, hR2, hfr.tr hfr2 hszi, Nat.le_trans hszi hz2⟩, by rw [ht]; exact hH, by rw [ht]⟩, hS.F ht⟩) hS.2.2 dC_answer_173
  · have hs1 := zA_s st rc sd told mb b1
    have hv1 := hok.val hrc (zget_mem b1)
    obtain ⟨k0, hk0⟩ : ∃ q, q = (st.lg rc).getD i 0 := ⟨_, rfl⟩
    rw [← hk0] at hs1 hv1
    have hk31 := zval.lt hn hok hv1
    have hc8 : k0 % 8 < 8 := Nat.mod_lt _ (by decide)
    have hw1 := zwo_le hok hv1
    have hzb := zb_lt told (k0 % 8)
    refine lv_iload hx hb dC_answer_27 (lv_at hl 4 rfl) ?_
    refine lv_aload_n hx hb dC_answer_29 rfl (lv_at hl 0 rfl) ?_
    refine va_get (D := G.1) (ci := 1) (v := .ref (z + 6 + 2 * n)) (C := RC) (T := TC) (N := 14) hx hb hz iC hown hK (hH.one hx0) 0 rfl rfl 9 (by decide) (hz _ zm_40) (fun _ h9 => h9) rfl dC_answer_30 ?_
    refine zw_alen hx hb hK hH 0 hga rfl dC_answer_33 ?_
    refine zw_ti (v' := nI (n * 60)) rfl ?_
    refine zc_ge (tgt := 151) hx hb dC_answer_34 (by decide) (by omega) (by omega) (fun b2 => ?_) (fun b2 => ?_)
    · exact absurd b2 (by omega)
    · refine lv_aload_n hx hb dC_answer_37 rfl (lv_at hl 0 rfl) ?_
      refine va_get (D := G.1) (ci := 1) (v := .ref (z + 2)) (C := RC) (T := TC) (N := 14) hx hb hz iC hown hK (hH.one hx0) 0 rfl rfl 4 (by decide) (hz _ zm_35) (fun _ h9 => h9) rfl dC_answer_38 ?_
      refine lv_iload_n hx hb dC_answer_41 rfl (lv_at hl 2 rfl) ?_
      refine zw_aald hx hb hK hH 4 hlgs rfl rfl (rc) rfl (hrc) (by omega) (v := .ref (z + 3 + rc)) rfl dC_answer_42 ?_
      refine lv_iload hx hb dC_answer_43 (lv_at hl 6 rfl) ?_
      refine zw_iald hx hb hK hH 0 hlgr rfl (i) rfl (by omega) (by omega) dC_answer_45 ?_
      refine zw_ti (by show nI (((zA st rc sd told mb i).st.lg rc).getD i 0) = _; rw [hlg1, ← hk0]) ?_
      refine lv_istore (lv' := [(7, .int (nI k0)), (0, .ref x), (1, .ref q), (2, .int (nI rc)), (3, .int (nI ((zA st rc sd told mb i).parts))), (4, .int (nI ((zA st rc sd told mb i).part.length))), (5, .int (nI ((zA st rc sd told mb i).byt))), (6, .int (nI i))]) hx hb dC_answer_46 hl (by decide) rfl (fun ls hl => ?_)
      refine lv_iload hx hb dC_answer_48 (lv_at hl 0 rfl) ?_
      refine zr_S (As := [.int (nI k0)]) (rest := []) ⟨hx, hb, hml, hown, hz⟩ (kC_seqOf l G B Mi k0 hk31) (zt_S zm_257 zm_258 zm_1 zm_259) rfl rfl rfl (show _ ∧ _ ∧ _ ∧ _ = some 1 from by decide +kernel) ⟨Nat.le_of_ble_eq_true rfl, Nat.le_of_ble_eq_true rfl⟩ zE_blind (zE_at hE hS) hH hl.1 rfl (Nat.le_of_ble_eq_true rfl) dC_answer_50 ⟨by show 2 * (i - (zA st rc sd told mb i).part.length) ≤ 960; omega, by show 7 * (i - (zA st rc sd told mb i).part.length) ≤ 3360; omega⟩ ?_
      refine lv_aload_n hx hb dC_answer_53 rfl (lv_at hl 2 rfl) ?_
      refine va_get (D := G.1) (ci := 0) (v := .long told) (C := RM) (T := TM) (N := 6) hx hb hz iM hown hK (hH.one hq1) 0 rfl rfl 4 (by decide) (hz _ zm_292) (fun _ h9 => h9) rfl dC_answer_54 ?_
      refine lv_iload hx hb dC_answer_57 (lv_at hl 0 rfl) ?_
      refine zr_S (As := [.int (nI k0)]) (rest := [.long told, .int (nI (k0 / 8))]) ⟨hx, hb, hml, hown, hz⟩ (kC_actorOf l G B Mi k0 hk31) (zt_S zm_254 zm_255 zm_1 zm_256) rfl rfl rfl (show _ ∧ _ ∧ _ ∧ _ = some 1 from by decide +kernel) ⟨Nat.le_of_ble_eq_true rfl, Nat.le_of_ble_eq_true rfl⟩ zE_blind (zE_at hE hS) hH hl.1 rfl (Nat.le_of_ble_eq_true rfl) dC_answer_59 ⟨by show 2 * (i - (zA st rc sd told mb i).part.length) ≤ 960; omega, by show 7 * (i - (zA st rc sd told mb i).part.length) ≤ 3360; omega⟩ ?_
      refine zr_S (As := [.long told, .int (nI (k0 % 8))]) (rest := [.int (nI (k0 / 8))]) ⟨hx, hb, hml, hown, hz⟩ (kC_countIn l G B Mi told (k0 % 8) hc8) (zt_S zm_118 zm_119 zm_1 zm_120) rfl rfl rfl (show _ ∧ _ ∧ _ ∧ _ = some 2 from by decide +kernel) ⟨Nat.le_of_ble_eq_true rfl, Nat.le_of_ble_eq_true rfl⟩ zE_blind (zE_at hE hS) hH hl.1 rfl (Nat.le_of_ble_eq_true rfl) dC_answer_62 ⟨by show 2 * (i - (zA st rc sd told mb i).part.length) ≤ 960; omega, by show 7 * (i - (zA st rc sd told mb i).part.length) ≤ 3360; omega⟩ ?_
      refine zc_gt (tgt := 71) hx hb dC_answer_65 (by decide) (by omega) (by omega) (fun b3 => ?_) (fun b3 => ?_)
      · refine lv_aload_n hx hb dC_answer_71 rfl (lv_at hl 1 rfl) ?_
        refine lv_iload hx hb dC_answer_72 (lv_at hl 0 rfl) ?_
        refine zr_S (As := [.int (nI k0)]) (rest := [.ref x]) ⟨hx, hb, hml, hown, hz⟩ (kC_actorOf l G B Mi k0 hk31) (zt_S zm_254 zm_255 zm_1 zm_256) rfl rfl rfl (show _ ∧ _ ∧ _ ∧ _ = some 1 from by decide +kernel) ⟨Nat.le_of_ble_eq_true rfl, Nat.le_of_ble_eq_true rfl⟩ zE_blind (zE_at hE hS) hH hl.1 rfl (Nat.le_of_ble_eq_true rfl) dC_answer_74 ⟨by show 2 * (i - (zA st rc sd told mb i).part.length) ≤ 960; omega, by show 7 * (i - (zA st rc sd told mb i).part.length) ≤ 3360; omega⟩ ?_
        refine lv_iload hx hb dC_answer_77 (lv_at hl 0 rfl) ?_
        refine zr_S (As := [.int (nI k0)]) (rest := [.int (nI (k0 % 8)), .ref x]) ⟨hx, hb, hml, hown, hz⟩ (kC_seqOf l G B Mi k0 hk31) (zt_S zm_257 zm_258 zm_1 zm_259) rfl rfl rfl (show _ ∧ _ ∧ _ ∧ _ = some 1 from by decide +kernel) ⟨Nat.le_of_ble_eq_true rfl, Nat.le_of_ble_eq_true rfl⟩ zE_blind (zE_at hE hS) hH hl.1 rfl (Nat.le_of_ble_eq_true rfl) dC_answer_79 ⟨by show 2 * (i - (zA st rc sd told mb i).part.length) ≤ 960; omega, by show 7 * (i - (zA st rc sd told mb i).part.length) ≤ 3360; omega⟩ ?_
        have hwr := hR1.wt (k0 % 8) hv1.1
        have hzc : zb (zck ((zA st rc sd told mb i).st.lg (k0 % 8))) (k0 % 8) = ((zA st rc sd told mb i).st.wt (k0 % 8)).length := (zck_at (hok1.b8 hv1.1) hc8).trans (hok1.2.2.1 _ hv1.1).1
        have hwl : k0 / 8 ≤ ((zA st rc sd told mb i).st.wt (k0 % 8)).length := by rw [hwt1]; exact hv1.2.2
        have h60 := (hok1.2.2.1 _ hv1.1).2
        have hq2 : k0 / 8 ≤ zb (zck ((zA st rc sd told mb i).st.lg (k0 % 8))) (k0 % 8) := by rw [hzc]; exact hwl
        refine zr_V (As := [.int (nI (k0 % 8)), .int (nI (k0 / 8))]) (rest := []) (q := (RC, TC, 14)) ⟨hx, hb, hml, hown, hz⟩ (kC_weight_in l G B Mi x n mb z (zA st rc sd told mb i).st.fl.length (zA st rc sd told mb i).st.se (zA st rc sd told mb i).st.lo (zA st rc sd told mb i).st.go (zA st rc sd told mb i).st.pa hn hx0 (fun a9 => zck ((zA st rc sd told mb i).st.lg a9)) hck hwts (fun k => nI (((zA st rc sd told mb i).st.wt (k0 % 8)).getD k 0)) (k0 % 8) (k0 / 8) hv1.1 hwr hv1.2.1 hq2 (by omega)) (zt_V zm_329 zm_111 zm_112 zm_1 zm_113) rfl rfl rfl (show _ ∧ _ ∧ _ ∧ _ = some 2 from by decide +kernel) ⟨Nat.le_of_ble_eq_true rfl, Nat.le_of_ble_eq_true rfl⟩ zE_blind (zE_at hE hS) hH hK hx0 rfl rfl hl.1 rfl (Nat.le_of_ble_eq_true rfl) dC_answer_82 ⟨by show 2 * (i - (zA st rc sd told mb i).part.length) ≤ 960; omega, by show 7 * (i - (zA st rc sd told mb i).part.length) ≤ 3360; omega⟩ ?_
        refine zw_ti (by show nI (((zA st rc sd told mb i).st.wt (k0 % 8)).getD (k0 / 8 - 1) 0) = _; rw [hwt1]) ?_
        refine lv_istore (lv' := [(8, .int (nI (zwo st.wt k0))), (7, .int (nI k0)), (0, .ref x), (1, .ref q), (2, .int (nI rc)), (3, .int (nI ((zA st rc sd told mb i).parts))), (4, .int (nI ((zA st rc sd told mb i).part.length))), (5, .int (nI ((zA st rc sd told mb i).byt))), (6, .int (nI i))]) hx hb dC_answer_85 hl (by decide) rfl (fun ls hl => ?_)
        refine lv_iload hx hb dC_answer_87 (lv_at hl 6 rfl) ?_
        refine zc_le0 (tgt := 126) hx hb dC_answer_89 (by decide) (by omega) (fun b4 => ?_) (fun b4 => ?_)
        · have hT : zA st rc sd told mb (i + 1) = zAn.mk (zA st rc sd told mb i).st (zA st rc sd told mb i).parts ((zA st rc sd told mb i).part ++ [k0]) ((zA st rc sd told mb i).byt + zwo st.wt k0) := by rw [hs1]; unfold zan; rw [if_neg (by omega), if_neg (by rw [hwt1]; omega), hwt1]
          refine lv_aload_n hx hb dC_answer_126 rfl (lv_at hl 2 rfl) ?_
          refine va_get (D := G.1) (ci := 1) (v := .ref (z + 6 + 2 * n)) (C := RC) (T := TC) (N := 14) hx hb hz iC hown hK (hH.one hx0) 0 rfl rfl 9 (by decide) (hz _ zm_40) (fun _ h9 => h9) rfl dC_answer_127 ?_
          refine lv_iload hx hb dC_answer_130 (lv_at hl 6 rfl) ?_
          refine lv_iload hx hb dC_answer_132 (lv_at hl 1 rfl) ?_
          have hsz : Hi.size = Hi.size := rfl
          refine zw_iast hx hb hK hH hS 0 hga rfl ((zA st rc sd told mb i).part.length) rfl (by omega) (by omega) dC_answer_134 (fun H1 L1 hH hz1 hS => ?_)
          have hsz : H1.size = Hi.size := hz1
          obtain ⟨M1, hM1⟩ : ∃ Mq, Mq = zw_u Mi (z + 6 + 2 * n) (.inl (G.2.1 0, n * 60, .inl (upd g1 ((zA st rc sd told mb i).part.length) (nI k0)))) := ⟨_, rfl⟩
          have hH : zw_H G.1 zCl B M1 H1 := by rw [hM1]; exact hH
          have hx0 : M1 x = some (.inr (1, zoC n mb z ((zA st rc sd told mb i).st.fl.length) ((zA st rc sd told mb i).st.se) ((zA st rc sd told mb i).st.lo) ((zA st rc sd told mb i).st.go) ((zA st rc sd told mb i).st.pa))) := by rw [hM1, zw_un _ _ (by omega)]; exact hx0
          have hck : M1 (z + 1) = some (.inl (G.2.1 1, n, .inr (.inl (fun a9 => zck ((zA st rc sd told mb i).st.lg a9))))) := by rw [hM1, zw_un _ _ (by omega)]; exact hck
          have hlgs : M1 (z + 2) = some (.inl (G.2.1 4, n, .inr (.inr (.inr (.inr (fun a9 => some (z + 3 + a9))))))) := by rw [hM1, zw_un _ _ (by omega)]; exact hlgs
          have hlz : M1 (z + 3 + n) = some (.inl (G.2.1 0, n, .inl (fun a9 => nI (((zA st rc sd told mb i).st.lg a9).length)))) := by rw [hM1, zw_un _ _ (by omega)]; exact hlz
          have hwts : M1 (z + 4 + n) = some (.inl (G.2.1 4, n, .inr (.inr (.inr (.inr (fun a9 => some (z + 5 + n + a9))))))) := by rw [hM1, zw_un _ _ (by omega)]; exact hwts
          have hlgr : M1 (z + 3 + rc) = some (.inl (G.2.1 0, n * 60, .inl (fun k => nI (((zA st rc sd told mb i).st.lg rc).getD k 0)))) := by rw [hM1, zw_un _ _ (by omega)]; exact hlgr
          have hq1 : M1 q = some (.inr (0, zoM num (nI sd) (nI rc) byt told ch)) := by rw [hM1, zw_un _ _ (by omega)]; exact hq1
          have hga : M1 (z + 6 + 2 * n) = some (.inl (G.2.1 0, n * 60, .inl (upd g1 ((zA st rc sd told mb i).part.length) (nI k0)))) := by rw [hM1]; exact zw_us _ _ _
          refine lv_iinc (v := (nI (((zA st rc sd told mb i).part.length) + 1))) (lv' := [(4, .int (nI (((zA st rc sd told mb i).part.length) + 1))), (8, .int (nI (zwo st.wt k0))), (7, .int (nI k0)), (0, .ref x), (1, .ref q), (2, .int (nI rc)), (3, .int (nI ((zA st rc sd told mb i).parts))), (5, .int (nI ((zA st rc sd told mb i).byt))), (6, .int (nI i))]) hx hb dC_answer_135 hl (k := 6) rfl (nI_add _ _) (by decide) rfl (fun ls hl => ?_)
          refine lv_iload hx hb dC_answer_138 (lv_at hl 7 rfl) ?_
          refine lv_iload hx hb dC_answer_140 (lv_at hl 1 rfl) ?_
          refine lv_iadd hx hb dC_answer_142 ?_
          refine zw_ti (nI_add _ _) ?_
          refine lv_istore (lv' := [(5, .int (nI (((zA st rc sd told mb i).byt) + (zwo st.wt k0)))), (4, .int (nI (((zA st rc sd told mb i).part.length) + 1))), (8, .int (nI (zwo st.wt k0))), (7, .int (nI k0)), (0, .ref x), (1, .ref q), (2, .int (nI rc)), (3, .int (nI ((zA st rc sd told mb i).parts))), (6, .int (nI i))]) hx hb dC_answer_143 hl (by decide) rfl (fun ls hl => ?_)
          refine lv_iinc (v := (nI (i + 1))) (lv' := [(6, .int (nI (i + 1))), (5, .int (nI (((zA st rc sd told mb i).byt) + (zwo st.wt k0)))), (4, .int (nI (((zA st rc sd told mb i).part.length) + 1))), (8, .int (nI (zwo st.wt k0))), (7, .int (nI k0)), (0, .ref x), (1, .ref q), (2, .int (nI rc)), (3, .int (nI ((zA st rc sd told mb i).parts)))]) hx hb dC_answer_145 hl (k := 8) rfl (nI_add _ _) (by decide) rfl (fun ls hl => ?_)
          refine lv_goto (tgt := 16) hx hb dC_answer_148 (by decide) ?_
          have hk2 : ∀ a : Nat, a ≠ z + 6 + 2 * n → M1 a = Mi a := fun a h1 => by rw [hM1, zw_un _ _ h1]
          refine W.widen (k := 2 * ((i + 1) - (zA st rc sd told mb (i + 1)).part.length)) (n := 7 * ((i + 1) - (zA st rc sd told mb (i + 1)).part.length)) (by rw [hT]; show 2 * (i - _) ≤ 2 * (i + 1 - (_ ++ [k0]).length); rw [List.length_append]; show _ ≤ 2 * (i + 1 - (_ + 1)); omega) (by rw [hT]; show 7 * (i - _) ≤ 7 * (i + 1 - (_ ++ [k0]).length); rw [List.length_append]; show _ ≤ 7 * (i + 1 - (_ + 1)); omega) ?_
          exact ih b1 ls H1 _ _ _ ⟨lv_sub hl [5, 6, 7, 8, 2, 1, 0] (by rw [hT]; show _ = [_, _, _, _, (4, Value.int (nI (_ ++ [k0]).length)), _, _]; rw [List.length_append]; rfl), ⟨rfl, rfl⟩, M1, hH, hS, by rw [hT]; exact ⟨⟨qs1, _, hR1.gat (fun a e h1 h2 => (hk2 a h1).trans h2) hga, zgat hg1⟩, fun a h1 h2 h3 => (hk2 a (by omega)).trans (hfr a h1 h2 h3), by show sz ≤ H1.size; omega⟩⟩
        · refine lv_iload hx hb dC_answer_92 (lv_at hl 7 rfl) ?_
          refine lv_iload hx hb dC_answer_94 (lv_at hl 0 rfl) ?_
          refine lv_iadd hx hb dC_answer_96 ?_
          refine zw_ti (nI_add _ _) ?_
          refine lv_aload_n hx hb dC_answer_97 rfl (lv_at hl 2 rfl) ?_
          refine va_get (D := G.1) (ci := 1) (v := .int (nI mb)) (C := RC) (T := TC) (N := 14) hx hb hz iC hown hK (hH.one hx0) 0 rfl rfl 1 (by decide) (hz _ zm_32) (fun _ h9 => h9) rfl dC_answer_98 ?_
          refine zc_le (tgt := 126) hx hb dC_answer_101 (by decide) (by omega) (by omega) (fun b5 => ?_) (fun b5 => ?_)
          · have hT : zA st rc sd told mb (i + 1) = zAn.mk (zA st rc sd told mb i).st (zA st rc sd told mb i).parts ((zA st rc sd told mb i).part ++ [k0]) ((zA st rc sd told mb i).byt + zwo st.wt k0) := by rw [hs1]; unfold zan; rw [if_neg (by omega), if_neg (by rw [hwt1]; omega), hwt1]
            refine lv_aload_n hx hb dC_answer_126 rfl (lv_at hl 2 rfl) ?_
            refine va_get (D := G.1) (ci := 1) (v := .ref (z + 6 + 2 * n)) (C := RC) (T := TC) (N := 14) hx hb hz iC hown hK (hH.one hx0) 0 rfl rfl 9 (by decide) (hz _ zm_40) (fun _ h9 => h9) rfl dC_answer_127 ?_
            refine lv_iload hx hb dC_answer_130 (lv_at hl 6 rfl) ?_
            refine lv_iload hx hb dC_answer_132 (lv_at hl 1 rfl) ?_
            have hsz : Hi.size = Hi.size := rfl
            refine zw_iast hx hb hK hH hS 0 hga rfl ((zA st rc sd told mb i).part.length) rfl (by omega) (by omega) dC_answer_134 (fun H1 L1 hH hz1 hS => ?_)
            have hsz : H1.size = Hi.size := hz1
            obtain ⟨M1, hM1⟩ : ∃ Mq, Mq = zw_u Mi (z + 6 + 2 * n) (.inl (G.2.1 0, n * 60, .inl (upd g1 ((zA st rc sd told mb i).part.length) (nI k0)))) := ⟨_, rfl⟩
            have hH : zw_H G.1 zCl B M1 H1 := by rw [hM1]; exact hH
            have hx0 : M1 x = some (.inr (1, zoC n mb z ((zA st rc sd told mb i).st.fl.length) ((zA st rc sd told mb i).st.se) ((zA st rc sd told mb i).st.lo) ((zA st rc sd told mb i).st.go) ((zA st rc sd told mb i).st.pa))) := by rw [hM1, zw_un _ _ (by omega)]; exact hx0
            have hck : M1 (z + 1) = some (.inl (G.2.1 1, n, .inr (.inl (fun a9 => zck ((zA st rc sd told mb i).st.lg a9))))) := by rw [hM1, zw_un _ _ (by omega)]; exact hck
            have hlgs : M1 (z + 2) = some (.inl (G.2.1 4, n, .inr (.inr (.inr (.inr (fun a9 => some (z + 3 + a9))))))) := by rw [hM1, zw_un _ _ (by omega)]; exact hlgs
            have hlz : M1 (z + 3 + n) = some (.inl (G.2.1 0, n, .inl (fun a9 => nI (((zA st rc sd told mb i).st.lg a9).length)))) := by rw [hM1, zw_un _ _ (by omega)]; exact hlz
            have hwts : M1 (z + 4 + n) = some (.inl (G.2.1 4, n, .inr (.inr (.inr (.inr (fun a9 => some (z + 5 + n + a9))))))) := by rw [hM1, zw_un _ _ (by omega)]; exact hwts
            have hlgr : M1 (z + 3 + rc) = some (.inl (G.2.1 0, n * 60, .inl (fun k => nI (((zA st rc sd told mb i).st.lg rc).getD k 0)))) := by rw [hM1, zw_un _ _ (by omega)]; exact hlgr
            have hq1 : M1 q = some (.inr (0, zoM num (nI sd) (nI rc) byt told ch)) := by rw [hM1, zw_un _ _ (by omega)]; exact hq1
            have hga : M1 (z + 6 + 2 * n) = some (.inl (G.2.1 0, n * 60, .inl (upd g1 ((zA st rc sd told mb i).part.length) (nI k0)))) := by rw [hM1]; exact zw_us _ _ _
            refine lv_iinc (v := (nI (((zA st rc sd told mb i).part.length) + 1))) (lv' := [(4, .int (nI (((zA st rc sd told mb i).part.length) + 1))), (8, .int (nI (zwo st.wt k0))), (7, .int (nI k0)), (0, .ref x), (1, .ref q), (2, .int (nI rc)), (3, .int (nI ((zA st rc sd told mb i).parts))), (5, .int (nI ((zA st rc sd told mb i).byt))), (6, .int (nI i))]) hx hb dC_answer_135 hl (k := 6) rfl (nI_add _ _) (by decide) rfl (fun ls hl => ?_)
            refine lv_iload hx hb dC_answer_138 (lv_at hl 7 rfl) ?_
            refine lv_iload hx hb dC_answer_140 (lv_at hl 1 rfl) ?_
            refine lv_iadd hx hb dC_answer_142 ?_
            refine zw_ti (nI_add _ _) ?_
            refine lv_istore (lv' := [(5, .int (nI (((zA st rc sd told mb i).byt) + (zwo st.wt k0)))), (4, .int (nI (((zA st rc sd told mb i).part.length) + 1))), (8, .int (nI (zwo st.wt k0))), (7, .int (nI k0)), (0, .ref x), (1, .ref q), (2, .int (nI rc)), (3, .int (nI ((zA st rc sd told mb i).parts))), (6, .int (nI i))]) hx hb dC_answer_143 hl (by decide) rfl (fun ls hl => ?_)
            refine lv_iinc (v := (nI (i + 1))) (lv' := [(6, .int (nI (i + 1))), (5, .int (nI (((zA st rc sd told mb i).byt) + (zwo st.wt k0)))), (4, .int (nI (((zA st rc sd told mb i).part.length) + 1))), (8, .int (nI (zwo st.wt k0))), (7, .int (nI k0)), (0, .ref x), (1, .ref q), (2, .int (nI rc)), (3, .int (nI ((zA st rc sd told mb i).parts)))]) hx hb dC_answer_145 hl (k := 8) rfl (nI_add _ _) (by decide) rfl (fun ls hl => ?_)
            refine lv_goto (tgt := 16) hx hb dC_answer_148 (by decide) ?_
            have hk2 : ∀ a : Nat, a ≠ z + 6 + 2 * n → M1 a = Mi a := fun a h1 => by rw [hM1, zw_un _ _ h1]
            refine W.widen (k := 2 * ((i + 1) - (zA st rc sd told mb (i + 1)).part.length)) (n := 7 * ((i + 1) - (zA st rc sd told mb (i + 1)).part.length)) (by rw [hT]; show 2 * (i - _) ≤ 2 * (i + 1 - (_ ++ [k0]).length); rw [List.length_append]; show _ ≤ 2 * (i + 1 - (_ + 1)); omega) (by rw [hT]; show 7 * (i - _) ≤ 7 * (i + 1 - (_ ++ [k0]).length); rw [List.length_append]; show _ ≤ 7 * (i + 1 - (_ + 1)); omega) ?_
            exact ih b1 ls H1 _ _ _ ⟨lv_sub hl [5, 6, 7, 8, 2, 1, 0] (by rw [hT]; show _ = [_, _, _, _, (4, Value.int (nI (_ ++ [k0]).length)), _, _]; rw [List.length_append]; rfl), ⟨rfl, rfl⟩, M1, hH, hS, by rw [hT]; exact ⟨⟨qs1, _, hR1.gat (fun a e h1 h2 => (hk2 a h1).trans h2) hga, zgat hg1⟩, fun a h1 h2 h3 => (hk2 a (by omega)).trans (hfr a h1 h2 h3), by show sz ≤ H1.size; omega⟩⟩
          · have hT : zA st rc sd told mb (i + 1) = zAn.mk (zsend (zA st rc sd told mb i).st rc sd (zA st rc sd told mb i).byt none (zA st rc sd told mb i).part) ((zA st rc sd told mb i).parts + 1) [k0] (3 + zwo st.wt k0) := by rw [hs1]; unfold zan; rw [if_neg (by omega), if_pos (by rw [hwt1]; exact ⟨b4, b5⟩), hwt1]
            refine lv_aload_n hx hb dC_answer_104 rfl (lv_at hl 2 rfl) ?_
            refine lv_iload_n hx hb dC_answer_105 rfl (lv_at hl 4 rfl) ?_
            refine lv_aload_n hx hb dC_answer_106 rfl (lv_at hl 3 rfl) ?_
            refine va_get (D := G.1) (ci := 0) (v := .int (nI sd)) (C := RM) (T := TM) (N := 6) hx hb hz iM hown hK (hH.one hq1) 0 rfl rfl 1 (by decide) (hz _ zm_286) (fun _ h9 => h9) rfl dC_answer_107 ?_
            refine lv_iload hx hb dC_answer_110 (lv_at hl 7 rfl) ?_
            refine lv_iload hx hb dC_answer_112 (lv_at hl 6 rfl) ?_
            refine zr_Vv (As := [.int (nI rc), .int (nI sd), .int (nI ((zA st rc sd told mb i).byt)), .int (nI ((zA st rc sd told mb i).part.length))]) (rest := []) (q := (RC, TC, 14)) (mc := 2) (ms := 6 + (zA st rc sd told mb i).part.length) ⟨hx, hb, hml, hown, hz⟩ (kC_sendGathered l G B Mi _ x z L n mb (zA st rc sd told mb i).st qs1 g1 hn hR1 (by omega) rc sd (zA st rc sd told mb i).byt (zA st rc sd told mb i).part (by omega) hg1 hok1.fl) (zt_V zm_330 zm_332 zs_13 zm_1 zm_333) rfl rfl rfl (show _ ∧ _ ∧ _ ∧ _ = some 4 from by decide +kernel) ⟨Nat.le_of_ble_eq_true rfl, Nat.le_of_ble_eq_true rfl⟩ zE_blind (zE_at hE hS) hH hK hx0 rfl rfl hS hl.1 rfl (Nat.le_of_ble_eq_true rfl) dC_answer_114 ⟨by show 2 * (i - (zA st rc sd told mb i).part.length) + 2 ≤ 960; omega, by show 7 * (i - (zA st rc sd told mb i).part.length) + (6 + (zA st rc sd told mb i).part.length) ≤ 3360; omega⟩ (fun M1 sz1 H1 L1 hp hH hz1 hz2 hS => ?_)
            obtain ⟨⟨qs2, g2, hR2⟩, hfr2, hz3⟩ := hp
            have hfr2 : zfr x z n Hi.size Mi M1 := hfr2
            have hR2 : zCR G M1 x z L n mb _ qs2 g2 := hR2
            have hx0 := hR2.obj
            have hga := hR2.ga
            have hxz := hR2.xz
            have hzL := hR2.zL
            refine lv_iinc (v := (nI (((zA st rc sd told mb i).parts) + 1))) (lv' := [(3, .int (nI (((zA st rc sd told mb i).parts) + 1))), (8, .int (nI (zwo st.wt k0))), (7, .int (nI k0)), (0, .ref x), (1, .ref q), (2, .int (nI rc)), (4, .int (nI ((zA st rc sd told mb i).part.length))), (5, .int (nI ((zA st rc sd told mb i).byt))), (6, .int (nI i))]) hx hb dC_answer_117 hl (k := 5) rfl (nI_add _ _) (by decide) rfl (fun ls hl => ?_)
            refine lv_iconst (v := nI 0) hx hb dC_answer_120 (by decide) ?_
            refine lv_istore (lv' := [(4, .int (nI 0)), (3, .int (nI (((zA st rc sd told mb i).parts) + 1))), (8, .int (nI (zwo st.wt k0))), (7, .int (nI k0)), (0, .ref x), (1, .ref q), (2, .int (nI rc)), (5, .int (nI ((zA st rc sd told mb i).byt))), (6, .int (nI i))]) hx hb dC_answer_121 hl (by decide) rfl (fun ls hl => ?_)
            refine lv_iconst (v := nI 3) hx hb dC_answer_123 (by decide) ?_
            refine lv_istore (lv' := [(5, .int (nI 3)), (4, .int (nI 0)), (3, .int (nI (((zA st rc sd told mb i).parts) + 1))), (8, .int (nI (zwo st.wt k0))), (7, .int (nI k0)), (0, .ref x), (1, .ref q), (2, .int (nI rc)), (6, .int (nI i))]) hx hb dC_answer_124 hl (by decide) rfl (fun ls hl => ?_)
            refine lv_aload_n hx hb dC_answer_126 rfl (lv_at hl 5 rfl) ?_
            refine va_get (D := G.1) (ci := 1) (v := .ref (z + 6 + 2 * n)) (C := RC) (T := TC) (N := 14) hx hb hz iC hown hK (hH.one hx0) 0 rfl rfl 9 (by decide) (hz _ zm_40) (fun _ h9 => h9) rfl dC_answer_127 ?_
            refine lv_iload hx hb dC_answer_130 (lv_at hl 1 rfl) ?_
            refine lv_iload hx hb dC_answer_132 (lv_at hl 4 rfl) ?_
            have hsz : H1.size = H1.size := rfl
            refine zw_iast hx hb hK hH hS 0 hga rfl (0) rfl (by omega) (by omega) dC_answer_134 (fun H2 L2 hH hz1 hS => ?_)
            have hsz : H2.size = H1.size := hz1
            obtain ⟨M2, hM2⟩ : ∃ Mq, Mq = zw_u M1 (z + 6 + 2 * n) (.inl (G.2.1 0, n * 60, .inl (upd g2 0 (nI k0)))) := ⟨_, rfl⟩
            have hH : zw_H G.1 zCl B M2 H2 := by rw [hM2]; exact hH
            have hx0 : M2 x = some (.inr (1, zoC n mb z ((zsend (zA st rc sd told mb i).st rc sd (zA st rc sd told mb i).byt none (zA st rc sd told mb i).part).fl.length) ((zsend (zA st rc sd told mb i).st rc sd (zA st rc sd told mb i).byt none (zA st rc sd told mb i).part).se) ((zsend (zA st rc sd told mb i).st rc sd (zA st rc sd told mb i).byt none (zA st rc sd told mb i).part).lo) ((zsend (zA st rc sd told mb i).st rc sd (zA st rc sd told mb i).byt none (zA st rc sd told mb i).part).go) ((zsend (zA st rc sd told mb i).st rc sd (zA st rc sd told mb i).byt none (zA st rc sd told mb i).part).pa))) := by rw [hM2, zw_un _ _ (by omega)]; exact hx0
            have hga : M2 (z + 6 + 2 * n) = some (.inl (G.2.1 0, n * 60, .inl (upd g2 0 (nI k0)))) := by rw [hM2]; exact zw_us _ _ _
            refine lv_iinc (v := (nI (0 + 1))) (lv' := [(4, .int (nI (0 + 1))), (5, .int (nI 3)), (3, .int (nI (((zA st rc sd told mb i).parts) + 1))), (8, .int (nI (zwo st.wt k0))), (7, .int (nI k0)), (0, .ref x), (1, .ref q), (2, .int (nI rc)), (6, .int (nI i))]) hx hb dC_answer_135 hl (k := 1) rfl (nI_add _ _) (by decide) rfl (fun ls hl => ?_)
            refine lv_iload hx hb dC_answer_138 (lv_at hl 1 rfl) ?_
            refine lv_iload hx hb dC_answer_140 (lv_at hl 3 rfl) ?_
            refine lv_iadd hx hb dC_answer_142 ?_
            refine zw_ti (nI_add _ _) ?_
            refine lv_istore (lv' := [(5, .int (nI (3 + (zwo st.wt k0)))), (4, .int (nI (0 + 1))), (3, .int (nI (((zA st rc sd told mb i).parts) + 1))), (8, .int (nI (zwo st.wt k0))), (7, .int (nI k0)), (0, .ref x), (1, .ref q), (2, .int (nI rc)), (6, .int (nI i))]) hx hb dC_answer_143 hl (by decide) rfl (fun ls hl => ?_)
            refine lv_iinc (v := (nI (i + 1))) (lv' := [(6, .int (nI (i + 1))), (5, .int (nI (3 + (zwo st.wt k0)))), (4, .int (nI (0 + 1))), (3, .int (nI (((zA st rc sd told mb i).parts) + 1))), (8, .int (nI (zwo st.wt k0))), (7, .int (nI k0)), (0, .ref x), (1, .ref q), (2, .int (nI rc))]) hx hb dC_answer_145 hl (k := 8) rfl (nI_add _ _) (by decide) rfl (fun ls hl => ?_)
            refine lv_goto (tgt := 16) hx hb dC_answer_148 (by decide) ?_
            have hk2 : ∀ a : Nat, a ≠ z + 6 + 2 * n → M2 a = M1 a := fun a h1 => by rw [hM2, zw_un _ _ h1]
            refine W.widen (k := 2 * ((i + 1) - (zA st rc sd told mb (i + 1)).part.length)) (n := 7 * ((i + 1) - (zA st rc sd told mb (i + 1)).part.length)) (by rw [hT]; show _ ≤ 2 * (i + 1 - 1); omega) (by rw [hT]; show _ ≤ 7 * (i + 1 - 1); omega) ?_
            exact ih b1 ls H2 _ _ _ ⟨lv_sub hl [6, 7, 8, 3, 2, 1, 0] (by rw [hT]; rfl), ⟨rfl, rfl⟩, M2, hH, hS, by rw [hT]; exact ⟨⟨qs2, _, hR2.gat (fun a e h1 h2 => (hk2 a h1).trans h2) hga, fun k hk => by have hk : k < 1 := hk; rw [show k = 0 by omega]; exact if_pos rfl⟩, fun a h1 h2 h3 => (hk2 a (by omega)).trans ((hfr.tr hfr2 hszi) a h1 h2 h3), by show sz ≤ H2.size; omega⟩⟩
      · have hT : zA st rc sd told mb (i + 1) = (zA st rc sd told mb i) := by rw [hs1]; exact if_pos b3
        refine lv_goto (tgt := 145) hx hb dC_answer_68 (by decide) ?_
        refine lv_iinc (v := (nI (i + 1))) (lv' := [(6, .int (nI (i + 1))), (7, .int (nI k0)), (0, .ref x), (1, .ref q), (2, .int (nI rc)), (3, .int (nI ((zA st rc sd told mb i).parts))), (4, .int (nI ((zA st rc sd told mb i).part.length))), (5, .int (nI ((zA st rc sd told mb i).byt)))]) hx hb dC_answer_145 hl (k := 7) rfl (nI_add _ _) (by decide) rfl (fun ls hl => ?_)
        refine lv_goto (tgt := 16) hx hb dC_answer_148 (by decide) ?_
        refine W.widen (k := 2 * ((i + 1) - (zA st rc sd told mb (i + 1)).part.length)) (n := 7 * ((i + 1) - (zA st rc sd told mb (i + 1)).part.length)) (by rw [hT]; omega) (by rw [hT]; omega) ?_
        exact ih b1 ls Hi _ _ _ ⟨lv_sub hl [2, 3, 4, 5, 6, 7, 0] (by rw [hT]; rfl), ⟨rfl, rfl⟩, Mi, hH, hS, by rw [hT]; exact ⟨⟨qs1, g1, hR1, hg1⟩, hfr, hszi⟩⟩

