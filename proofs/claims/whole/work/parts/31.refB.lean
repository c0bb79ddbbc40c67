/-! THE REFERENCE: bytesOf, enter, send, remove -/
theorem zsum_list (f : Nat → Nat) : ∀ (L : List Nat), zsum (fun k => f (L.getD k 0)) L.length = (L.map f).sum := by
  intro L
  have h : ∀ i, i ≤ L.length → zsum (fun k => f (L.getD k 0)) i = ((L.take i).map f).sum := by
    intro i
    induction i with
    | zero => intro _; rfl
    | succ i ih =>
      intro hi
      have h1 : i < L.length := hi
      show zsum _ i + f (L.getD i 0) = _
      rw [ih (by omega), List.take_succ, List.getElem?_eq_getElem h1, Option.toList_some, List.map_append, List.sum_append, List.getD_eq_getElem?_getD, List.getElem?_eq_getElem h1]
      simp
  rw [h _ (Nat.le_refl _), List.take_length]
/-- one row copied into another, k places from b on -/
def zcp (f g : Nat → Int32) (b k : Nat) : Nat → Int32 := fun q => if b ≤ q ∧ q < b + k then g (q - b) else f q
theorem zcp_0 (f g : Nat → Int32) (b : Nat) : zcp f g b 0 = f := by
  funext q
  exact if_neg (by omega)
theorem zcp_s (f g : Nat → Int32) (b k : Nat) : upd (zcp f g b k) (b + k) (g k) = zcp f g b (k + 1) := by
  funext q
  unfold upd zcp
  by_cases h : q = b + k
  · subst h
    rw [if_pos rfl, if_pos ⟨by omega, by omega⟩]
    congr 1; omega
  · rw [if_neg h]
    by_cases h2 : b ≤ q ∧ q < b + k
    · rw [if_pos h2, if_pos ⟨h2.1, by omega⟩]
    · rw [if_neg h2, if_neg (by omega)]
theorem zcp_in (f g : Nat → Int32) {b k q : Nat} (h : q < k) : zcp f g b k (b + q) = g q := by
  unfold zcp
  rw [if_pos ⟨by omega, by omega⟩]
  congr 1; omega
theorem zcp_out (f g : Nat → Int32) {b k q : Nat} (h : ¬ (b ≤ q ∧ q < b + k)) : zcp f g b k q = f q := if_neg h
/-- the rows while one is being taken out -/
def zrk (rw : Nat → Nat) (j k : Nat) : Nat → Nat := fun q => if q < j then rw q else if q < k then rw (q + 1) else rw q
theorem zrk_0 (rw : Nat → Nat) (j : Nat) : zrk rw j j = rw := by
  funext q
  unfold zrk
  by_cases h : q < j
  · rw [if_pos h]
  · rw [if_neg h, if_neg h]
theorem zrk_s (rw : Nat → Nat) {j k : Nat} (h : j ≤ k) : upd (fun a9 => nI (zrk rw j k a9)) k (nI (rw (k + 1))) = fun a9 => nI (zrk rw j (k + 1) a9) := by
  funext q
  unfold upd zrk
  by_cases h1 : q = k
  · rw [if_pos h1, h1, if_neg (by omega), if_pos (by omega)]
  · rw [if_neg h1]
    show nI _ = nI _
    congr 1
    by_cases h2 : q < j
    · rw [if_pos h2, if_pos h2]
    · rw [if_neg h2, if_neg h2]
      by_cases h3 : q < k
      · rw [if_pos h3, if_pos (by omega)]
      · rw [if_neg h3, if_neg (by omega)]
/-- .. and at the end -/
def zre (rw : Nat → Nat) (j e : Nat) : Nat → Nat := fun q => if q = e then rw j else zrk rw j e q
theorem zre_s (rw : Nat → Nat) (j e : Nat) : upd (fun a9 => nI (zrk rw j e a9)) e (nI (rw j)) = fun a9 => nI (zre rw j e a9) := by
  funext q
  unfold upd zre
  by_cases h : q = e
  · rw [if_pos h, if_pos h]
  · rw [if_neg h, if_neg h]
theorem zre_b {rw : Nat → Nat} (h : ∀ i, i < 120 → rw i < 120) {j e : Nat} (hj : j ≤ e) (he : e < 120) : ∀ i, i < 120 → zre rw j e i < 120 := by
  intro i hi
  unfold zre zrk
  by_cases h1 : i = e
  · rw [if_pos h1]; exact h j (by omega)
  · rw [if_neg h1]
    by_cases h2 : i < j
    · rw [if_pos h2]; exact h i hi
    · rw [if_neg h2]
      by_cases h3 : i < e
      · rw [if_pos h3]; exact h _ (by omega)
      · rw [if_neg h3]; exact h i hi
/-- where a place of the new rows lies in the old ones -/
def zro (j e q : Nat) : Nat := if q = e then j else if q < j then q else if q < e then q + 1 else q
theorem zre_o (rw : Nat → Nat) (j e q : Nat) : zre rw j e q = rw (zro j e q) := by
  unfold zre zrk zro
  by_cases h1 : q = e
  · rw [if_pos h1, if_pos h1]
  · rw [if_neg h1, if_neg h1]
    by_cases h2 : q < j
    · rw [if_pos h2, if_pos h2]
    · rw [if_neg h2, if_neg h2]
      by_cases h3 : q < e
      · rw [if_pos h3, if_pos h3]
      · rw [if_neg h3, if_neg h3]
theorem zro_lt {j e q : Nat} (hj : j ≤ e) (he : e < 120) (hq : q < 120) : zro j e q < 120 := by
  unfold zro
  repeat' split
  all_goals omega
theorem zro_inj {j e p q : Nat} (hj : j ≤ e) (h : zro j e p = zro j e q) : p = q := by
  unfold zro at h
  repeat' split at h
  all_goals omega
theorem zre_i {rw : Nat → Nat} (h : ∀ i j, i < 120 → j < 120 → rw i = rw j → i = j) {j e : Nat} (hj : j ≤ e) (he : e < 120) : ∀ p q, p < 120 → q < 120 → zre rw j e p = zre rw j e q → p = q := by
  intro p q hp hq hpq
  rw [zre_o, zre_o] at hpq
  exact zro_inj hj (h _ _ (zro_lt hj he hp) (zro_lt hj he hq) hpq)
set_option maxHeartbeats 4000000 in
set_option maxRecDepth 100000 in
theorem kR_bytesOf_clock (l : Launch) (G : zG) (B : Nat) (M : zw_M) (x z n mb : Nat) (st : zSt) (th pt : Nat) (Y : zRX) (hn : n ≤ 8) (hR : zRR G M x z n mb st th pt Y) (i0 : Nat) (mg : zMg) (hi0 : i0 < 120) (hmg : st.fl[i0]? = some mg) (k : Int64) (hk : mg.ck = some k) : Met l yR_bytesOf (Cond.code yR_bytesOf bR_bytesOf 4 (some .int) :: zT) { frames := 1, cells := 0, slots := 0, locals := 24 } (zp G B M [.ref x, .int (nI (Y.rw i0))]) (k2_QcV (.int (nI (3 + n)))) 0 0 (fun _ => False) := by
  refine Met.ofW (cc := bR_bytesOf) (maxL := 4) (ret := (some .int)) (by decide) rfl ?_
  intro p e s m args below meth c s₁ B0 hml hv
  obtain ⟨rfl, hE, hH⟩ := hv
  have hx := B0.exec
  have hb := B0.bytes
  have hr := B0.returns
  have hlocks := B0.notSynchronized
  have hz : ∀ w ∈ zT, w.before _ s = true := fun w h => atoms_spec (ws := Cond.code yR_bytesOf bR_bytesOf 4 (some .int) :: zT) B0.pre w (List.mem_cons_of_mem _ h)
  have hown : s.vm.findClass RR = some m.cls := findClass_of_methodNamed B0.named
  have hK := hE.1
  have hl := lv_entry ([.ref x, .int (nI (Y.rw i0))]) (n := 4) (Nat.le_of_ble_eq_true rfl)
  rw [lg_entry_eq]
  generalize (lg_sl ([.ref x, .int (nI (Y.rw i0))]) ++ List.replicate (4 - (lg_sl ([.ref x, .int (nI (Y.rw i0))])).length) Slot.unset).toArray = ls at hl ⊢
  have hl : lv_has ls 4 [(0, .ref x), (1, .int (nI (Y.rw i0)))] := hl
  have hS : va_S (zw_A B) s.heap s.heap [] := va_S.rf
  obtain ⟨m1, m2, m3, m4, m5, m6⟩ := hR.msg i0 mg hmg
  have hsi : Y.si (Y.rw i0) = -1 := by rw [m4, hk]; rfl
  have hrb := hR.rwb i0 hi0
  refine lv_aload_n hx hb dR_bytesOf_0 rfl (lv_at hl 0 rfl) ?_
  refine va_get (D := G.1) (ci := 2) (v := .ref (z + 9)) (C := RR) (T := TR) (N := 22) hx hb hz iR hown hK (hH.one hR.obj) 0 rfl rfl 13 (by decide) (hz _ zm_401) (fun _ h9 => h9) rfl dR_bytesOf_1 ?_
  refine lv_iload_n hx hb dR_bytesOf_4 rfl (lv_at hl 1 rfl) ?_
  refine zw_iald hx hb hK hH 0 hR.si rfl (Y.rw i0) rfl (hrb) (by decide) dR_bytesOf_5 ?_
  rw [hsi]
  refine lv_if_ge (tgt := 18) hx hb dR_bytesOf_6 (by decide) (fun h => absurd h (by decide)) (fun _ => ?_)
  refine lv_iconst (v := nI 3) hx hb dR_bytesOf_9 (by decide) ?_
  refine lv_aload_n hx hb dR_bytesOf_10 rfl (lv_at hl 0 rfl) ?_
  refine va_get (D := G.1) (ci := 2) (v := .int (nI n)) (C := RR) (T := TR) (N := 22) hx hb hz iR hown hK (hH.one hR.obj) 0 rfl rfl 1 (by decide) (hz _ zm_389) (fun _ h9 => h9) rfl dR_bytesOf_11 ?_
  refine lv_iadd hx hb dR_bytesOf_14 ?_
  refine zw_ti (nI_add _ _) ?_
  refine lv_goto (tgt := 19) hx hb dR_bytesOf_15 (by decide) ?_
  refine lv_istore_n (lv' := [(2, .int (nI (3 + n))), (0, .ref x), (1, .int (nI (Y.rw i0)))]) hx hb dR_bytesOf_19 rfl hl (by decide) rfl (fun ls hl => ?_)
  refine lv_iconst (v := nI 0) hx hb dR_bytesOf_20 (by decide) ?_
  refine lv_istore_n (lv' := [(3, .int (nI 0)), (2, .int (nI (3 + n))), (0, .ref x), (1, .int (nI (Y.rw i0)))]) hx hb dR_bytesOf_21 rfl hl (by decide) rfl (fun ls hl => ?_)
  refine lv_iload_n hx hb dR_bytesOf_22 rfl (lv_at hl 0 rfl) ?_
  refine lv_aload_n hx hb dR_bytesOf_23 rfl (lv_at hl 2 rfl) ?_
  refine va_get (D := G.1) (ci := 2) (v := .ref (z + 9)) (C := RR) (T := TR) (N := 22) hx hb hz iR hown hK (hH.one hR.obj) 0 rfl rfl 13 (by decide) (hz _ zm_401) (fun _ h9 => h9) rfl dR_bytesOf_24 ?_
  refine lv_iload_n hx hb dR_bytesOf_27 rfl (lv_at hl 3 rfl) ?_
  refine zw_iald hx hb hK hH 0 hR.si rfl (Y.rw i0) rfl (hrb) (by decide) dR_bytesOf_28 ?_
  rw [hsi]
  refine lv_icmp_ge (tgt := 57) hx hb dR_bytesOf_29 (by decide) (fun _ => ?_) (fun h => absurd (by decide) h)
  refine lv_iload_n hx hb dR_bytesOf_57 rfl (lv_at hl 1 rfl) ?_
  exact W.iret (v := (nI (3 + n))) hx hb hr (fun t ht hW => ⟨rfl, ht⟩) (fun q h => by cases h) dR_bytesOf_58

set_option maxHeartbeats 4000000 in
set_option maxRecDepth 100000 in
theorem kR_bytesOf_part (l : Launch) (G : zG) (B : Nat) (M : zw_M) (x z n mb : Nat) (st : zSt) (th pt : Nat) (Y : zRX) (hn : n ≤ 8) (hR : zRR G M x z n mb st th pt Y) (hok : zOK n st) (i0 : Nat) (mg : zMg) (hi0 : i0 < 120) (hmg : st.fl[i0]? = some mg) (hk : mg.ck = none) (hl4 : mg.chs.length ≤ 480) (hvl : ∀ d ∈ mg.chs, zval n st.wt d) : Met l yR_bytesOf (Cond.code yR_bytesOf bR_bytesOf 4 (some .int) :: zT) { frames := 1, cells := 0, slots := 0, locals := 24 } (zp G B M [.ref x, .int (nI (Y.rw i0))]) (k2_QcV (.int (nI (3 + (mg.chs.map (zwo st.wt)).sum)))) 0 0 (fun _ => False) := by
  refine Met.ofW (cc := bR_bytesOf) (maxL := 4) (ret := (some .int)) (by decide) rfl ?_
  intro p e s m args below meth c s₁ B0 hml hv
  obtain ⟨rfl, hE, hH⟩ := hv
  have hx := B0.exec
  have hb := B0.bytes
  have hr := B0.returns
  have hlocks := B0.notSynchronized
  have hz : ∀ w ∈ zT, w.before _ s = true := fun w h => atoms_spec (ws := Cond.code yR_bytesOf bR_bytesOf 4 (some .int) :: zT) B0.pre w (List.mem_cons_of_mem _ h)
  have hown : s.vm.findClass RR = some m.cls := findClass_of_methodNamed B0.named
  have hK := hE.1
  have hl := lv_entry ([.ref x, .int (nI (Y.rw i0))]) (n := 4) (Nat.le_of_ble_eq_true rfl)
  rw [lg_entry_eq]
  generalize (lg_sl ([.ref x, .int (nI (Y.rw i0))]) ++ List.replicate (4 - (lg_sl ([.ref x, .int (nI (Y.rw i0))])).length) Slot.unset).toArray = ls at hl ⊢
  have hl : lv_has ls 4 [(0, .ref x), (1, .int (nI (Y.rw i0)))] := hl
  have hS : va_S (zw_A B) s.heap s.heap [] := va_S.rf
  obtain ⟨m1, m2, m3, m4, m5, m6⟩ := hR.msg i0 mg hmg
  have hsi : Y.si (Y.rw i0) = nI mg.chs.length := by rw [m4, hk]; rfl
  have hrb := hR.rwb i0 hi0
  refine lv_aload_n hx hb dR_bytesOf_0 rfl (lv_at hl 0 rfl) ?_
  refine va_get (D := G.1) (ci := 2) (v := .ref (z + 9)) (C := RR) (T := TR) (N := 22) hx hb hz iR hown hK (hH.one hR.obj) 0 rfl rfl 13 (by decide) (hz _ zm_401) (fun _ h9 => h9) rfl dR_bytesOf_1 ?_
  refine lv_iload_n hx hb dR_bytesOf_4 rfl (lv_at hl 1 rfl) ?_
  refine zw_iald hx hb hK hH 0 hR.si rfl (Y.rw i0) rfl (hrb) (by decide) dR_bytesOf_5 ?_
  refine zw_ti (hsi) ?_
  refine zc_ge0 (tgt := 18) hx hb dR_bytesOf_6 (by decide) (by omega) ?_
  refine lv_iconst (v := nI 3) hx hb dR_bytesOf_18 (by decide) ?_
  refine lv_istore_n (lv' := [(2, .int (nI 3)), (0, .ref x), (1, .int (nI (Y.rw i0)))]) hx hb dR_bytesOf_19 rfl hl (by decide) rfl (fun ls hl => ?_)
  refine lv_iconst (v := nI 0) hx hb dR_bytesOf_20 (by decide) ?_
  refine lv_istore_n (lv' := [(3, .int (nI 0)), (2, .int (nI 3)), (0, .ref x), (1, .int (nI (Y.rw i0)))]) hx hb dR_bytesOf_21 rfl hl (by decide) rfl (fun ls hl => ?_)
  refine zl_up (Wg := fun ls => W p l e _ s m _ below meth c s.heap [] 0 0 _ (F0 m 22 ls [])) (fun i ls => lv_has ls 4 [(0, .ref x), (1, .int (nI (Y.rw i0))), (2, .int (nI (3 + zsum (fun k => zwo st.wt (mg.chs.getD k 0)) i))), (3, .int (nI i))]) mg.chs.length ?_ (i := 0) (by omega) (lv_sub hl [2, 3, 1, 0] rfl)
  intro i hi ls hl ih
  have hl : lv_has ls 4 [(0, .ref x), (1, .int (nI (Y.rw i0))), (2, .int (nI (3 + zsum (fun k => zwo st.wt (mg.chs.getD k 0)) i))), (3, .int (nI i))] := hl
  refine lv_iload_n hx hb dR_bytesOf_22 rfl (lv_at hl 3 rfl) ?_
  refine lv_aload_n hx hb dR_bytesOf_23 rfl (lv_at hl 0 rfl) ?_
  refine va_get (D := G.1) (ci := 2) (v := .ref (z + 9)) (C := RR) (T := TR) (N := 22) hx hb hz iR hown hK (hH.one hR.obj) 0 rfl rfl 13 (by decide) (hz _ zm_401) (fun _ h9 => h9) rfl dR_bytesOf_24 ?_
  refine lv_iload_n hx hb dR_bytesOf_27 rfl (lv_at hl 1 rfl) ?_
  refine zw_iald hx hb hK hH 0 hR.si rfl (Y.rw i0) rfl (hrb) (by decide) dR_bytesOf_28 ?_
  refine zw_ti (hsi) ?_
  refine zc_ge (tgt := 57) hx hb dR_bytesOf_29 (by decide) (by omega) (by omega) (fun b1 => ?_) (fun b1 => ?_)
  · have e1 : mg.chs.length = i := by omega
    have hf := zsum_list (zwo st.wt) mg.chs
    rw [e1] at hf
    rw [← hf]
    refine lv_iload_n hx hb dR_bytesOf_57 rfl (lv_at hl 2 rfl) ?_
    exact W.iret (v := (nI (3 + zsum (fun k => zwo st.wt (mg.chs.getD k 0)) i))) hx hb hr (fun t ht hW => ⟨rfl, ht⟩) (fun q h => by cases h) dR_bytesOf_58
  · have hv := hvl _ (zget_mem b1)
    refine lv_iload_n hx hb dR_bytesOf_32 rfl (lv_at hl 2 rfl) ?_
    refine lv_aload_n hx hb dR_bytesOf_33 rfl (lv_at hl 0 rfl) ?_
    refine lv_aload_n hx hb dR_bytesOf_34 rfl (lv_at hl 0 rfl) ?_
    refine va_get (D := G.1) (ci := 2) (v := .ref (z + 11)) (C := RR) (T := TR) (N := 22) hx hb hz iR hown hK (hH.one hR.obj) 0 rfl rfl 15 (by decide) (hz _ zm_403) (fun _ h9 => h9) rfl dR_bytesOf_35 ?_
    refine lv_sipush (v := nI 480) hx hb dR_bytesOf_38 (by decide) ?_
    refine lv_iload_n hx hb dR_bytesOf_41 rfl (lv_at hl 1 rfl) ?_
    refine lv_imul hx hb dR_bytesOf_42 ?_
    refine zw_ti (pk_mul _ _) ?_
    refine lv_iload_n hx hb dR_bytesOf_43 rfl (lv_at hl 3 rfl) ?_
    refine lv_iadd hx hb dR_bytesOf_44 ?_
    refine zw_ti (nI_add _ _) ?_
    refine zw_iald hx hb hK hH 0 hR.ins rfl (480 * Y.rw i0 + i) rfl (by omega) (by decide) dR_bytesOf_45 ?_
    refine zw_ti (m6 i b1) ?_
    refine zr_V (As := [.int (nI (mg.chs.getD i 0))]) (rest := [.int (nI (3 + zsum (fun k => zwo st.wt (mg.chs.getD k 0)) i))]) (q := (RR, TR, 22)) ⟨hx, hb, hml, hown, hz⟩ (kR_weightOf l G B M x z n mb st th pt Y hn hR hok (mg.chs.getD i 0) hv) (zt_V zm_504 zm_506 zs_23 zm_3 zm_507) rfl rfl rfl (show _ ∧ _ ∧ _ ∧ _ = some 1 from by decide +kernel) ⟨Nat.le_of_ble_eq_true rfl, Nat.le_of_ble_eq_true rfl⟩ zE_blind (zE_at hE hS) hH hK hR.obj rfl rfl hl.1 rfl (Nat.le_of_ble_eq_true rfl) dR_bytesOf_46 ⟨Nat.zero_le _, Nat.zero_le _⟩ ?_
    refine lv_iadd hx hb dR_bytesOf_49 ?_
    refine zw_ti (nI_add _ _) ?_
    refine lv_istore_n (lv' := [(2, .int (nI ((3 + zsum (fun k => zwo st.wt (mg.chs.getD k 0)) i) + (zwo st.wt (mg.chs.getD i 0))))), (0, .ref x), (1, .int (nI (Y.rw i0))), (3, .int (nI i))]) hx hb dR_bytesOf_50 rfl hl (by decide) rfl (fun ls hl => ?_)
    refine lv_iinc (v := (nI (i + 1))) (lv' := [(3, .int (nI (i + 1))), (2, .int (nI ((3 + zsum (fun k => zwo st.wt (mg.chs.getD k 0)) i) + (zwo st.wt (mg.chs.getD i 0))))), (0, .ref x), (1, .int (nI (Y.rw i0)))]) hx hb dR_bytesOf_51 hl (k := 3) rfl (nI_add _ _) (by decide) rfl (fun ls hl => ?_)
    refine lv_goto (tgt := 22) hx hb dR_bytesOf_54 (by decide) ?_
    exact ih b1 ls (lv_sub hl [2, 3, 1, 0] (by rw [show 3 + zsum (fun k => zwo st.wt (mg.chs.getD k 0)) (i + 1) = 3 + zsum (fun k => zwo st.wt (mg.chs.getD k 0)) i + zwo st.wt (mg.chs.getD i 0) from (Nat.add_assoc _ _ _).symm]; rfl))

theorem kR_bytesOf (l : Launch) (G : zG) (B : Nat) (M : zw_M) (x z n mb : Nat) (st : zSt) (th pt : Nat) (Y : zRX) (hn : n ≤ 8) (hR : zRR G M x z n mb st th pt Y) (hok : zOK n st) (i0 : Nat) (mg : zMg) (hmg : st.fl[i0]? = some mg) : Met l yR_bytesOf (Cond.code yR_bytesOf bR_bytesOf 4 (some .int) :: zT) { frames := 1, cells := 0, slots := 0, locals := 24 } (zp G B M [.ref x, .int (nI (Y.rw i0))]) (k2_QcV (.int (nI mg.byt))) 0 0 (fun _ => False) := by
  have hm := hok.msg (List.mem_of_getElem? hmg)
  have h1 : i0 < st.fl.length := (List.getElem?_eq_some_iff.mp hmg).1
  have h2 := hok.fl
  obtain ⟨-, -, hm⟩ := hm
  cases hk : mg.ck with
  | some k =>
    rw [hk] at hm
    rw [hm.2.1]
    exact kR_bytesOf_clock l G B M x z n mb st th pt Y hn hR i0 mg (by omega) hmg k hk
  | none =>
    rw [hk] at hm
    rw [hm.2.2.2]
    exact kR_bytesOf_part l G B M x z n mb st th pt Y hn hR hok i0 mg (by omega) hmg hk hm.2.1 hm.2.2.1
theorem zhas_u {st : zSt} {j k0 : Nat} (hl : (st.lg j).length < 480) : upd (fun a9 => nI ((st.lg (a9 / 480)).getD (a9 % 480) 0)) (480 * j + (st.lg j).length) (nI k0) = fun a9 => nI (((zlog st j k0).lg (a9 / 480)).getD (a9 % 480) 0) := by
  obtain ⟨hp1, hp2⟩ := zpl j (st.lg j).length 480 hl
  funext q
  show (if q = _ then _ else _) = nI ((if q / 480 = j then st.lg j ++ [k0] else st.lg (q / 480)).getD (q % 480) 0)
  by_cases h : q = 480 * j + (st.lg j).length
  · rw [if_pos h, h, hp1, hp2, if_pos rfl]; simp
  · rw [if_neg h]
    by_cases h2 : q / 480 = j
    · have h3 : q % 480 ≠ (st.lg j).length := fun e => h (by omega)
      rw [if_pos h2]
      show nI ((st.lg (q / 480)).getD (q % 480) 0) = _
      rw [h2]
      have := congrFun (zlg_app (st.lg j) k0) (q % 480)
      unfold upd at this
      rw [if_neg h3] at this
      exact this
    · rw [if_neg h2]
theorem zmn_u (st : zSt) (j k0 : Nat) : upd (fun a9 => nI ((st.lg a9).length)) j (nI ((st.lg j).length + 1)) = fun a9 => nI (((zlog st j k0).lg a9).length) := by
  funext i
  show (if i = j then _ else _) = nI ((if i = j then st.lg j ++ [k0] else st.lg i : List Nat).length)
  by_cases hi : i = j
  · rw [if_pos hi, if_pos hi, List.length_append]; rfl
  · rw [if_neg hi, if_neg hi]
set_option maxHeartbeats 4000000 in
set_option maxRecDepth 100000 in
theorem kR_enter (l : Launch) (G : zG) (B : Nat) (M : zw_M) (sz : Nat) (x z n mb : Nat) (st : zSt) (th pt : Nat) (Y : zRX) (hn : n ≤ 8) (hR : zRR G M x z n mb st th pt Y) (j k0 : Nat) (hj : j < n) (hl4 : (st.lg j).length < 480) : Met l yR_enter (Cond.code yR_enter bR_enter 3 none :: zT) { frames := 0, cells := 0, slots := 0, locals := 0 } (zq G B M sz [.ref x, .int (nI j), .int (nI k0)]) (va_Qv (fun (u : zw_M × Nat) => zRR G u.1 x z n mb (zlog st j k0) th pt Y ∧ zrf x z M u.1 ∧ u.2 = sz) (zr_o G.1 zCl B) (zw_A B)) (0) (0) (zw_A B) := by
  refine Met.ofW (cc := bR_enter) (maxL := 3) (ret := none) (by decide) rfl ?_
  intro p e s m args below meth c s₁ B0 hml hv
  obtain ⟨rfl, hE, hH, hsz⟩ := hv
  have hx := B0.exec
  have hb := B0.bytes
  have hr := B0.returns
  have hlocks := B0.notSynchronized
  have hz : ∀ w ∈ zT, w.before _ s = true := fun w h => atoms_spec (ws := Cond.code yR_enter bR_enter 3 none :: zT) B0.pre w (List.mem_cons_of_mem _ h)
  have hown : s.vm.findClass RR = some m.cls := findClass_of_methodNamed B0.named
  have hK := hE.1
  have hl := lv_entry ([.ref x, .int (nI j), .int (nI k0)]) (n := 3) (Nat.le_of_ble_eq_true rfl)
  rw [lg_entry_eq]
  generalize (lg_sl ([.ref x, .int (nI j), .int (nI k0)]) ++ List.replicate (3 - (lg_sl ([.ref x, .int (nI j), .int (nI k0)])).length) Slot.unset).toArray = ls at hl ⊢
  have hl : lv_has ls 3 [(0, .ref x), (1, .int (nI j)), (2, .int (nI k0))] := hl
  have hS : va_S (zw_A B) s.heap s.heap [] := va_S.rf
  have hin : meth.name = "enter" := (name_of_methodNamed B0.named B0.method).1
  obtain ⟨hp1, hp2⟩ := zpl j (st.lg j).length 480 hl4
  have hx0 := hR.obj
  have hdn := hR.dn
  have hmd := hR.md
  have hwt := hR.wt
  have hhas := hR.has
  have hmn := hR.mn
  have hrw := hR.rw
  have hnu := hR.nu
  have hfr := hR.fr
  have hto := hR.to
  have hsi := hR.si
  have hcl := hR.cl
  have hins := hR.ins
  have hpart := hR.part
  have hxz := hR.xz
  refine lv_aload_n hx hb dR_enter_0 rfl (lv_at hl 0 rfl) ?_
  refine va_get (D := G.1) (ci := 2) (v := .ref (z + 3)) (C := RR) (T := TR) (N := 22) hx hb hz iR hown hK (hH.one hx0) 0 rfl rfl 6 (by decide) (hz _ zm_394) (fun _ h9 => h9) rfl dR_enter_1 ?_
  refine lv_sipush (v := nI 480) hx hb dR_enter_4 (by decide) ?_
  refine lv_iload_n hx hb dR_enter_7 rfl (lv_at hl 1 rfl) ?_
  refine lv_imul hx hb dR_enter_8 ?_
  refine zw_ti (pk_mul _ _) ?_
  refine lv_aload_n hx hb dR_enter_9 rfl (lv_at hl 0 rfl) ?_
  refine va_get (D := G.1) (ci := 2) (v := .ref (z + 4)) (C := RR) (T := TR) (N := 22) hx hb hz iR hown hK (hH.one hx0) 0 rfl rfl 7 (by decide) (hz _ zm_395) (fun _ h9 => h9) rfl dR_enter_10 ?_
  refine lv_iload_n hx hb dR_enter_13 rfl (lv_at hl 1 rfl) ?_
  refine zw_iald hx hb hK hH 0 hmn rfl (j) rfl (by omega) (by decide) dR_enter_14 ?_
  refine lv_iadd hx hb dR_enter_15 ?_
  refine zw_ti (nI_add _ _) ?_
  refine lv_iload_n hx hb dR_enter_16 rfl (lv_at hl 2 rfl) ?_
  refine zw_iast hx hb hK hH hS 0 hhas rfl (480 * j + (st.lg j).length) rfl (by omega) (by decide) dR_enter_17 (fun H1 L1 hH hz1 hS => ?_)
  have hsz : H1.size = sz := hz1.trans hsz
  obtain ⟨M1, hM1⟩ : ∃ Mq, Mq = zw_u M (z + 3) (.inl (G.2.1 0, 3840, .inl (upd (fun a9 => nI ((st.lg (a9 / 480)).getD (a9 % 480) 0)) (480 * j + (st.lg j).length) (nI k0)))) := ⟨_, rfl⟩
  have hH : zw_H G.1 zCl B M1 H1 := by rw [hM1]; exact hH
  have hx0 : M1 x = some (.inr (2, zoR th n mb z st.fl.length st.se st.lo st.go st.pa pt)) := by rw [hM1, zw_un _ _ (by omega)]; exact hx0
  have hdn : M1 z = some (.inl (G.2.1 2, 8, .inl (fun a9 => nI (st.dn a9).toNat))) := by rw [hM1, zw_un _ _ (by omega)]; exact hdn
  have hmd : M1 (z + 1) = some (.inl (G.2.1 0, 8, .inl (fun a9 => nI ((st.wt a9).length)))) := by rw [hM1, zw_un _ _ (by omega)]; exact hmd
  have hwt : M1 (z + 2) = some (.inl (G.2.1 0, 488, .inl (fun a9 => nI ((st.wt (a9 / 61)).getD (a9 % 61) 0)))) := by rw [hM1, zw_un _ _ (by omega)]; exact hwt
  have hmn : M1 (z + 4) = some (.inl (G.2.1 0, 8, .inl (fun a9 => nI ((st.lg a9).length)))) := by rw [hM1, zw_un _ _ (by omega)]; exact hmn
  have hrw : M1 (z + 5) = some (.inl (G.2.1 0, 120, .inl (fun a9 => nI (Y.rw a9)))) := by rw [hM1, zw_un _ _ (by omega)]; exact hrw
  have hnu : M1 (z + 6) = some (.inl (G.2.1 0, 120, .inl Y.nu)) := by rw [hM1, zw_un _ _ (by omega)]; exact hnu
  have hfr : M1 (z + 7) = some (.inl (G.2.1 0, 120, .inl Y.fr)) := by rw [hM1, zw_un _ _ (by omega)]; exact hfr
  have hto : M1 (z + 8) = some (.inl (G.2.1 0, 120, .inl Y.to)) := by rw [hM1, zw_un _ _ (by omega)]; exact hto
  have hsi : M1 (z + 9) = some (.inl (G.2.1 0, 120, .inl Y.si)) := by rw [hM1, zw_un _ _ (by omega)]; exact hsi
  have hcl : M1 (z + 10) = some (.inl (G.2.1 1, 120, .inr (.inl Y.cl))) := by rw [hM1, zw_un _ _ (by omega)]; exact hcl
  have hins : M1 (z + 11) = some (.inl (G.2.1 0, 57600, .inl Y.ins)) := by rw [hM1, zw_un _ _ (by omega)]; exact hins
  have hpart : M1 (z + 12) = some (.inl (G.2.1 0, 480, .inl Y.part)) := by rw [hM1, zw_un _ _ (by omega)]; exact hpart
  have hhas : M1 (z + 3) = some (.inl (G.2.1 0, 3840, .inl (upd (fun a9 => nI ((st.lg (a9 / 480)).getD (a9 % 480) 0)) (480 * j + (st.lg j).length) (nI k0)))) := by rw [hM1]; exact zw_us _ _ _
  refine lv_aload_n hx hb dR_enter_18 rfl (lv_at hl 0 rfl) ?_
  refine va_get (D := G.1) (ci := 2) (v := .ref (z + 4)) (C := RR) (T := TR) (N := 22) hx hb hz iR hown hK (hH.one hx0) 0 rfl rfl 7 (by decide) (hz _ zm_395) (fun _ h9 => h9) rfl dR_enter_19 ?_
  refine lv_iload_n hx hb dR_enter_22 rfl (lv_at hl 1 rfl) ?_
  refine lv_dup2_11 hx hb dR_enter_23 rfl rfl ?_
  refine zw_iald hx hb hK hH 0 hmn rfl (j) rfl (by omega) (by decide) dR_enter_24 ?_
  refine lv_iconst (v := nI 1) hx hb dR_enter_25 (by decide) ?_
  refine lv_iadd hx hb dR_enter_26 ?_
  refine zw_ti (nI_add _ _) ?_
  refine zw_iast hx hb hK hH hS 0 hmn rfl (j) rfl (by omega) (by decide) dR_enter_27 (fun H2 L2 hH hz1 hS => ?_)
  have hsz : H2.size = sz := hz1.trans hsz
  obtain ⟨M2, hM2⟩ : ∃ Mq, Mq = zw_u M1 (z + 4) (.inl (G.2.1 0, 8, .inl (upd (fun a9 => nI ((st.lg a9).length)) j (nI (((st.lg j).length) + 1))))) := ⟨_, rfl⟩
  have hH : zw_H G.1 zCl B M2 H2 := by rw [hM2]; exact hH
  have hx0 : M2 x = some (.inr (2, zoR th n mb z st.fl.length st.se st.lo st.go st.pa pt)) := by rw [hM2, zw_un _ _ (by omega)]; exact hx0
  have hdn : M2 z = some (.inl (G.2.1 2, 8, .inl (fun a9 => nI (st.dn a9).toNat))) := by rw [hM2, zw_un _ _ (by omega)]; exact hdn
  have hmd : M2 (z + 1) = some (.inl (G.2.1 0, 8, .inl (fun a9 => nI ((st.wt a9).length)))) := by rw [hM2, zw_un _ _ (by omega)]; exact hmd
  have hwt : M2 (z + 2) = some (.inl (G.2.1 0, 488, .inl (fun a9 => nI ((st.wt (a9 / 61)).getD (a9 % 61) 0)))) := by rw [hM2, zw_un _ _ (by omega)]; exact hwt
  have hhas : M2 (z + 3) = some (.inl (G.2.1 0, 3840, .inl (upd (fun a9 => nI ((st.lg (a9 / 480)).getD (a9 % 480) 0)) (480 * j + (st.lg j).length) (nI k0)))) := by rw [hM2, zw_un _ _ (by omega)]; exact hhas
  have hrw : M2 (z + 5) = some (.inl (G.2.1 0, 120, .inl (fun a9 => nI (Y.rw a9)))) := by rw [hM2, zw_un _ _ (by omega)]; exact hrw
  have hnu : M2 (z + 6) = some (.inl (G.2.1 0, 120, .inl Y.nu)) := by rw [hM2, zw_un _ _ (by omega)]; exact hnu
  have hfr : M2 (z + 7) = some (.inl (G.2.1 0, 120, .inl Y.fr)) := by rw [hM2, zw_un _ _ (by omega)]; exact hfr
  have hto : M2 (z + 8) = some (.inl (G.2.1 0, 120, .inl Y.to)) := by rw [hM2, zw_un _ _ (by omega)]; exact hto
  have hsi : M2 (z + 9) = some (.inl (G.2.1 0, 120, .inl Y.si)) := by rw [hM2, zw_un _ _ (by omega)]; exact hsi
  have hcl : M2 (z + 10) = some (.inl (G.2.1 1, 120, .inr (.inl Y.cl))) := by rw [hM2, zw_un _ _ (by omega)]; exact hcl
  have hins : M2 (z + 11) = some (.inl (G.2.1 0, 57600, .inl Y.ins)) := by rw [hM2, zw_un _ _ (by omega)]; exact hins
  have hpart : M2 (z + 12) = some (.inl (G.2.1 0, 480, .inl Y.part)) := by rw [hM2, zw_un _ _ (by omega)]; exact hpart
  have hmn : M2 (z + 4) = some (.inl (G.2.1 0, 8, .inl (upd (fun a9 => nI ((st.lg a9).length)) j (nI (((st.lg j).length) + 1))))) := by rw [hM2]; exact zw_us _ _ _
  have hfz : zrf x z M M2 := fun q h1 h2 => by rw [hM2, zw_un _ _ (by omega), hM1, zw_un _ _ (by omega)]
  rw [zhas_u hl4] at hhas
  rw [zmn_u st j k0] at hmn
  exact W.vret hx hb hr (fun t ht hW => ⟨⟨(M2, sz), rfl, ⟨⟨hxz, hx0, hdn, hmd, hwt, hhas, hmn, hrw, hnu, hfr, hto, hsi, hcl, hins, hpart, hR.rwb, hR.rwi, hR.msg⟩, hfz, rfl⟩, by rw [ht]; exact hH, by rw [ht]; exact hsz⟩, hS.F ht⟩) hS.2.2 dR_enter_28

theorem zRX_send {Y : zRX} {st : zSt} {sd rv bq : Nat} {ck : Option Int64} {chs : List Nat} {cv : Int64} {row : Nat} (hrow : row = Y.rw st.fl.length) (hlt : st.fl.length < 120) (hb : ∀ i, i < 120 → Y.rw i < 120) (hi : ∀ i j, i < 120 → j < 120 → Y.rw i = Y.rw j → i = j) (hm : ∀ (i : Nat) (mg : zMg), st.fl[i]? = some mg → zRm Y i mg ∧ mg.chs.length ≤ 480) (hc : ∀ k, ck = some k → cv = k) (hp : ∀ k, k < chs.length → Y.part k = nI (chs.getD k 0)) (hl : chs.length ≤ 480) : ∀ (i : Nat) (mg : zMg), (st.fl ++ [zMg.mk st.se sd rv bq ck chs])[i]? = some mg → zRm (zRX.mk Y.rw (upd Y.nu row (nI st.se)) (upd Y.fr row (nI sd)) (upd Y.to row (nI rv)) (upd Y.si row (zsz ck chs)) (vp_updL Y.cl row cv) (zcp Y.ins Y.part (480 * row) chs.length) Y.part) i mg := by
  intro i mg h
  by_cases h1 : i < st.fl.length
  · rw [List.getElem?_append_left h1] at h
    obtain ⟨⟨m1, m2, m3, m4, m5, m6⟩, m7⟩ := hm i mg h
    have hne : Y.rw i ≠ row := fun e => by
      have := hi i st.fl.length (by omega) hlt (e.trans hrow)
      omega
    refine ⟨(if_neg hne).trans m1, (if_neg hne).trans m2, (if_neg hne).trans m3, (if_neg hne).trans m4, fun k hk => (if_neg hne).trans (m5 k hk), fun k hk => ?_⟩
    show zcp Y.ins Y.part (480 * row) chs.length (480 * Y.rw i + k) = _
    rw [zcp_out _ _ (by omega)]
    exact m6 k hk
  · by_cases h2 : i = st.fl.length
    · subst h2
      rw [List.getElem?_append_right (Nat.le_refl _), Nat.sub_self] at h
      have h : zMg.mk st.se sd rv bq ck chs = mg := Option.some.inj h
      subst h
      have e : Y.rw st.fl.length = row := hrow.symm
      refine ⟨if_pos e, if_pos e, if_pos e, if_pos e, fun k hk => (if_pos e).trans (hc k hk), fun k hk => ?_⟩
      show zcp Y.ins Y.part (480 * row) chs.length (480 * Y.rw st.fl.length + k) = _
      have hk : k < chs.length := hk
      rw [e, zcp_in _ _ hk]
      exact hp k hk
    · rw [List.getElem?_eq_none (by rw [List.length_append]; show st.fl.length + 1 ≤ i; omega)] at h
      cases h
set_option maxHeartbeats 4000000 in
set_option maxRecDepth 100000 in
theorem kR_send_full (l : Launch) (G : zG) (B : Nat) (M : zw_M) (sz : Nat) (x z n mb : Nat) (st : zSt) (th pt : Nat) (Y : zRX) (hn : n ≤ 8) (hR : zRR G M x z n mb st th pt Y) (sd rv bq : Nat) (ck : Option Int64) (chs : List Nat) (cv : Int64) (hm8 : ∀ mg ∈ st.fl, mg.chs.length ≤ 480) (hcv : ∀ k, ck = some k → cv = k) (hpt : ∀ k, k < chs.length → Y.part k = nI (chs.getD k 0)) (hl4 : chs.length ≤ 480) (hlt : st.fl.length = 120) : Met l yR_send (Cond.code yR_send bR_send 8 (some .int) :: zT) { frames := 0, cells := 0, slots := 0, locals := 0 } (zq G B M sz [.ref x, .int (nI sd), .int (nI rv), .int (zsz ck chs), .long cv]) (va_Qi (fun (r : Int32) (u : zw_M × Nat) => r = nI st.se ∧ (∃ Y2 : zRX, zRR G u.1 x z n mb (zsend st sd rv bq ck chs) th pt Y2) ∧ zrf x z M u.1 ∧ u.2 = sz) (zr_o G.1 zCl B) (zw_A B)) (0) (0) (zw_A B) := by
  refine Met.ofW (cc := bR_send) (maxL := 8) (ret := (some .int)) (by decide) rfl ?_
  intro p e s m args below meth c s₁ B0 hml hv
  obtain ⟨rfl, hE, hH, hsz⟩ := hv
  have hx := B0.exec
  have hb := B0.bytes
  have hr := B0.returns
  have hlocks := B0.notSynchronized
  have hz : ∀ w ∈ zT, w.before _ s = true := fun w h => atoms_spec (ws := Cond.code yR_send bR_send 8 (some .int) :: zT) B0.pre w (List.mem_cons_of_mem _ h)
  have hown : s.vm.findClass RR = some m.cls := findClass_of_methodNamed B0.named
  have hK := hE.1
  have hl := lv_entry ([.ref x, .int (nI sd), .int (nI rv), .int (zsz ck chs), .long cv]) (n := 8) (Nat.le_of_ble_eq_true rfl)
  rw [lg_entry_eq]
  generalize (lg_sl ([.ref x, .int (nI sd), .int (nI rv), .int (zsz ck chs), .long cv]) ++ List.replicate (8 - (lg_sl ([.ref x, .int (nI sd), .int (nI rv), .int (zsz ck chs), .long cv])).length) Slot.unset).toArray = ls at hl ⊢
  have hl : lv_has ls 8 [(0, .ref x), (1, .int (nI sd)), (2, .int (nI rv)), (3, .int (zsz ck chs)), (4, .long cv)] := hl
  have hS : va_S (zw_A B) s.heap s.heap [] := va_S.rf
  have hin : meth.name = "send" := (name_of_methodNamed B0.named B0.method).1
  have hx0 := hR.obj
  have hdn := hR.dn
  have hmd := hR.md
  have hwt := hR.wt
  have hhas := hR.has
  have hmn := hR.mn
  have hrw := hR.rw
  have hnu := hR.nu
  have hfr := hR.fr
  have hto := hR.to
  have hsi := hR.si
  have hcl := hR.cl
  have hins := hR.ins
  have hpart := hR.part
  have hxz := hR.xz
  refine lv_aload_n hx hb dR_send_0 rfl (lv_at hl 0 rfl) ?_
  refine lv_dup hx hb dR_send_1 rfl ?_
  refine va_get (D := G.1) (ci := 2) (v := .int (nI st.se)) (C := RR) (T := TR) (N := 22) hx hb hz iR hown hK (hH.one hx0) 0 rfl rfl 16 (by decide) (hz _ zm_404) (fun _ h9 => h9) rfl dR_send_2 ?_
  refine lv_iconst (v := nI 1) hx hb dR_send_5 (by decide) ?_
  refine lv_iadd hx hb dR_send_6 ?_
  refine zw_ti (nI_add _ _) ?_
  refine zw_put (D := G.1) (ci := 2) (v := .int (nI (st.se + 1))) (ty := .int) (C := RR) (T := TR) (N := 22) hx hb hz iR tR tR_ok nR hown hK hH hS hx0 rfl 16 (by decide) (hz _ zm_404) (fun _ h9 => h9) rfl (by decide +kernel) rfl rfl (Nat.le_of_ble_eq_true rfl) dR_send_7 (fun H1 L1 hH hz1 hS => ?_)
  have hsz : H1.size = sz := hz1.trans hsz
  obtain ⟨M1, hM1⟩ : ∃ Mq, Mq = zw_u M x (.inr (2, zoR th n mb z st.fl.length (st.se + 1) st.lo st.go st.pa pt)) := ⟨_, rfl⟩
  have hH : zw_H G.1 zCl B M1 H1 := by rw [hM1]; exact hH
  have hdn : M1 z = some (.inl (G.2.1 2, 8, .inl (fun a9 => nI (st.dn a9).toNat))) := by rw [hM1, zw_un _ _ (by omega)]; exact hdn
  have hmd : M1 (z + 1) = some (.inl (G.2.1 0, 8, .inl (fun a9 => nI ((st.wt a9).length)))) := by rw [hM1, zw_un _ _ (by omega)]; exact hmd
  have hwt : M1 (z + 2) = some (.inl (G.2.1 0, 488, .inl (fun a9 => nI ((st.wt (a9 / 61)).getD (a9 % 61) 0)))) := by rw [hM1, zw_un _ _ (by omega)]; exact hwt
  have hhas : M1 (z + 3) = some (.inl (G.2.1 0, 3840, .inl (fun a9 => nI ((st.lg (a9 / 480)).getD (a9 % 480) 0)))) := by rw [hM1, zw_un _ _ (by omega)]; exact hhas
  have hmn : M1 (z + 4) = some (.inl (G.2.1 0, 8, .inl (fun a9 => nI ((st.lg a9).length)))) := by rw [hM1, zw_un _ _ (by omega)]; exact hmn
  have hrw : M1 (z + 5) = some (.inl (G.2.1 0, 120, .inl (fun a9 => nI (Y.rw a9)))) := by rw [hM1, zw_un _ _ (by omega)]; exact hrw
  have hnu : M1 (z + 6) = some (.inl (G.2.1 0, 120, .inl Y.nu)) := by rw [hM1, zw_un _ _ (by omega)]; exact hnu
  have hfr : M1 (z + 7) = some (.inl (G.2.1 0, 120, .inl Y.fr)) := by rw [hM1, zw_un _ _ (by omega)]; exact hfr
  have hto : M1 (z + 8) = some (.inl (G.2.1 0, 120, .inl Y.to)) := by rw [hM1, zw_un _ _ (by omega)]; exact hto
  have hsi : M1 (z + 9) = some (.inl (G.2.1 0, 120, .inl Y.si)) := by rw [hM1, zw_un _ _ (by omega)]; exact hsi
  have hcl : M1 (z + 10) = some (.inl (G.2.1 1, 120, .inr (.inl Y.cl))) := by rw [hM1, zw_un _ _ (by omega)]; exact hcl
  have hins : M1 (z + 11) = some (.inl (G.2.1 0, 57600, .inl Y.ins)) := by rw [hM1, zw_un _ _ (by omega)]; exact hins
  have hpart : M1 (z + 12) = some (.inl (G.2.1 0, 480, .inl Y.part)) := by rw [hM1, zw_un _ _ (by omega)]; exact hpart
  have hx0 : M1 x = some (.inr (2, zoR th n mb z st.fl.length (st.se + 1) st.lo st.go st.pa pt)) := by rw [hM1]; exact zw_us _ _ _
  refine lv_aload_n hx hb dR_send_10 rfl (lv_at hl 0 rfl) ?_
  refine va_get (D := G.1) (ci := 2) (v := .int (nI st.fl.length)) (C := RR) (T := TR) (N := 22) hx hb hz iR hown hK (hH.one hx0) 0 rfl rfl 9 (by decide) (hz _ zm_397) (fun _ h9 => h9) rfl dR_send_11 ?_
  refine lv_bipush (v := nI 120) hx hb dR_send_14 (by decide) ?_
  refine zc_ne (tgt := 36) hx hb dR_send_16 (by decide) (by omega) (by decide) (fun b1 => ?_) (fun b1 => ?_)
  · exact absurd hlt b1
  · refine lv_aload_n hx hb dR_send_19 rfl (lv_at hl 0 rfl) ?_
    refine lv_dup hx hb dR_send_20 rfl ?_
    refine va_get (D := G.1) (ci := 2) (v := .int (nI st.lo)) (C := RR) (T := TR) (N := 22) hx hb hz iR hown hK (hH.one hx0) 0 rfl rfl 17 (by decide) (hz _ zm_405) (fun _ h9 => h9) rfl dR_send_21 ?_
    refine lv_iconst (v := nI 1) hx hb dR_send_24 (by decide) ?_
    refine lv_iadd hx hb dR_send_25 ?_
    refine zw_ti (nI_add _ _) ?_
    refine zw_put (D := G.1) (ci := 2) (v := .int (nI (st.lo + 1))) (ty := .int) (C := RR) (T := TR) (N := 22) hx hb hz iR tR tR_ok nR hown hK hH hS hx0 rfl 17 (by decide) (hz _ zm_405) (fun _ h9 => h9) rfl (by decide +kernel) rfl rfl (Nat.le_of_ble_eq_true rfl) dR_send_26 (fun H2 L2 hH hz1 hS => ?_)
    have hsz : H2.size = sz := hz1.trans hsz
    obtain ⟨M2, hM2⟩ : ∃ Mq, Mq = zw_u M1 x (.inr (2, zoR th n mb z st.fl.length (st.se + 1) (st.lo + 1) st.go st.pa pt)) := ⟨_, rfl⟩
    have hH : zw_H G.1 zCl B M2 H2 := by rw [hM2]; exact hH
    have hdn : M2 z = some (.inl (G.2.1 2, 8, .inl (fun a9 => nI (st.dn a9).toNat))) := by rw [hM2, zw_un _ _ (by omega)]; exact hdn
    have hmd : M2 (z + 1) = some (.inl (G.2.1 0, 8, .inl (fun a9 => nI ((st.wt a9).length)))) := by rw [hM2, zw_un _ _ (by omega)]; exact hmd
    have hwt : M2 (z + 2) = some (.inl (G.2.1 0, 488, .inl (fun a9 => nI ((st.wt (a9 / 61)).getD (a9 % 61) 0)))) := by rw [hM2, zw_un _ _ (by omega)]; exact hwt
    have hhas : M2 (z + 3) = some (.inl (G.2.1 0, 3840, .inl (fun a9 => nI ((st.lg (a9 / 480)).getD (a9 % 480) 0)))) := by rw [hM2, zw_un _ _ (by omega)]; exact hhas
    have hmn : M2 (z + 4) = some (.inl (G.2.1 0, 8, .inl (fun a9 => nI ((st.lg a9).length)))) := by rw [hM2, zw_un _ _ (by omega)]; exact hmn
    have hrw : M2 (z + 5) = some (.inl (G.2.1 0, 120, .inl (fun a9 => nI (Y.rw a9)))) := by rw [hM2, zw_un _ _ (by omega)]; exact hrw
    have hnu : M2 (z + 6) = some (.inl (G.2.1 0, 120, .inl Y.nu)) := by rw [hM2, zw_un _ _ (by omega)]; exact hnu
    have hfr : M2 (z + 7) = some (.inl (G.2.1 0, 120, .inl Y.fr)) := by rw [hM2, zw_un _ _ (by omega)]; exact hfr
    have hto : M2 (z + 8) = some (.inl (G.2.1 0, 120, .inl Y.to)) := by rw [hM2, zw_un _ _ (by omega)]; exact hto
    have hsi : M2 (z + 9) = some (.inl (G.2.1 0, 120, .inl Y.si)) := by rw [hM2, zw_un _ _ (by omega)]; exact hsi
    have hcl : M2 (z + 10) = some (.inl (G.2.1 1, 120, .inr (.inl Y.cl))) := by rw [hM2, zw_un _ _ (by omega)]; exact hcl
    have hins : M2 (z + 11) = some (.inl (G.2.1 0, 57600, .inl Y.ins)) := by rw [hM2, zw_un _ _ (by omega)]; exact hins
    have hpart : M2 (z + 12) = some (.inl (G.2.1 0, 480, .inl Y.part)) := by rw [hM2, zw_un _ _ (by omega)]; exact hpart
    have hx0 : M2 x = some (.inr (2, zoR th n mb z st.fl.length (st.se + 1) (st.lo + 1) st.go st.pa pt)) := by rw [hM2]; exact zw_us _ _ _
    refine lv_aload_n hx hb dR_send_29 rfl (lv_at hl 0 rfl) ?_
    refine va_get (D := G.1) (ci := 2) (v := .int (nI (st.se + 1))) (C := RR) (T := TR) (N := 22) hx hb hz iR hown hK (hH.one hx0) 0 rfl rfl 16 (by decide) (hz _ zm_404) (fun _ h9 => h9) rfl dR_send_30 ?_
    refine lv_iconst (v := nI 1) hx hb dR_send_33 (by decide) ?_
    refine lv_isub hx hb dR_send_34 ?_
    refine zw_ti (pk_sub (by omega)) ?_
    have hfz : zrf x z M M2 := fun q h1 h2 => by rw [hM2, zw_un _ _ (by omega), hM1, zw_un _ _ (by omega)]
    have hsnd : zsend st sd rv bq ck chs = zSt.mk st.dn st.lg st.wt st.fl (st.se + 1) (st.lo + 1) st.go st.pa := if_neg (by omega)
    rw [hsnd]
    exact W.iret (v := (nI st.se)) hx hb hr (fun t ht hW => ⟨⟨(nI st.se), (M2, sz), rfl, ⟨rfl, ⟨Y, ⟨hxz, hx0, hdn, hmd, hwt, hhas, hmn, hrw, hnu, hfr, hto, hsi, hcl, hins, hpart, hR.rwb, hR.rwi, hR.msg⟩⟩, hfz, rfl⟩, by rw [ht]; exact hH, by rw [ht]; exact hsz⟩, hS.F ht⟩) hS.2.2 dR_send_35

set_option maxHeartbeats 4000000 in
set_option maxRecDepth 100000 in
theorem kR_send_clock (l : Launch) (G : zG) (B : Nat) (M : zw_M) (sz : Nat) (x z n mb : Nat) (st : zSt) (th pt : Nat) (Y : zRX) (hn : n ≤ 8) (hR : zRR G M x z n mb st th pt Y) (sd rv bq : Nat) (ck : Option Int64) (chs : List Nat) (cv : Int64) (hm8 : ∀ mg ∈ st.fl, mg.chs.length ≤ 480) (hcv : ∀ k, ck = some k → cv = k) (hpt : ∀ k, k < chs.length → Y.part k = nI (chs.getD k 0)) (hl4 : chs.length ≤ 480) (k : Int64) (hk : ck = some k) (hch0 : chs = []) (hlt : st.fl.length < 120) : Met l yR_send (Cond.code yR_send bR_send 8 (some .int) :: zT) { frames := 0, cells := 0, slots := 0, locals := 0 } (zq G B M sz [.ref x, .int (nI sd), .int (nI rv), .int (zsz ck chs), .long cv]) (va_Qi (fun (r : Int32) (u : zw_M × Nat) => r = nI st.se ∧ (∃ Y2 : zRX, zRR G u.1 x z n mb (zsend st sd rv bq ck chs) th pt Y2) ∧ zrf x z M u.1 ∧ u.2 = sz) (zr_o G.1 zCl B) (zw_A B)) (0) (0) (zw_A B) := by
  refine Met.ofW (cc := bR_send) (maxL := 8) (ret := (some .int)) (by decide) rfl ?_
  intro p e s m args below meth c s₁ B0 hml hv
  obtain ⟨rfl, hE, hH, hsz⟩ := hv
  have hx := B0.exec
  have hb := B0.bytes
  have hr := B0.returns
  have hlocks := B0.notSynchronized
  have hz : ∀ w ∈ zT, w.before _ s = true := fun w h => atoms_spec (ws := Cond.code yR_send bR_send 8 (some .int) :: zT) B0.pre w (List.mem_cons_of_mem _ h)
  have hown : s.vm.findClass RR = some m.cls := findClass_of_methodNamed B0.named
  have hK := hE.1
  have hl := lv_entry ([.ref x, .int (nI sd), .int (nI rv), .int (zsz ck chs), .long cv]) (n := 8) (Nat.le_of_ble_eq_true rfl)
  rw [lg_entry_eq]
  generalize (lg_sl ([.ref x, .int (nI sd), .int (nI rv), .int (zsz ck chs), .long cv]) ++ List.replicate (8 - (lg_sl ([.ref x, .int (nI sd), .int (nI rv), .int (zsz ck chs), .long cv])).length) Slot.unset).toArray = ls at hl ⊢
  have hl : lv_has ls 8 [(0, .ref x), (1, .int (nI sd)), (2, .int (nI rv)), (3, .int (zsz ck chs)), (4, .long cv)] := hl
  have hS : va_S (zw_A B) s.heap s.heap [] := va_S.rf
  have hin : meth.name = "send" := (name_of_methodNamed B0.named B0.method).1
  have hx0 := hR.obj
  have hdn := hR.dn
  have hmd := hR.md
  have hwt := hR.wt
  have hhas := hR.has
  have hmn := hR.mn
  have hrw := hR.rw
  have hnu := hR.nu
  have hfr := hR.fr
  have hto := hR.to
  have hsi := hR.si
  have hcl := hR.cl
  have hins := hR.ins
  have hpart := hR.part
  have hxz := hR.xz
  refine lv_aload_n hx hb dR_send_0 rfl (lv_at hl 0 rfl) ?_
  refine lv_dup hx hb dR_send_1 rfl ?_
  refine va_get (D := G.1) (ci := 2) (v := .int (nI st.se)) (C := RR) (T := TR) (N := 22) hx hb hz iR hown hK (hH.one hx0) 0 rfl rfl 16 (by decide) (hz _ zm_404) (fun _ h9 => h9) rfl dR_send_2 ?_
  refine lv_iconst (v := nI 1) hx hb dR_send_5 (by decide) ?_
  refine lv_iadd hx hb dR_send_6 ?_
  refine zw_ti (nI_add _ _) ?_
  refine zw_put (D := G.1) (ci := 2) (v := .int (nI (st.se + 1))) (ty := .int) (C := RR) (T := TR) (N := 22) hx hb hz iR tR tR_ok nR hown hK hH hS hx0 rfl 16 (by decide) (hz _ zm_404) (fun _ h9 => h9) rfl (by decide +kernel) rfl rfl (Nat.le_of_ble_eq_true rfl) dR_send_7 (fun H1 L1 hH hz1 hS => ?_)
  have hsz : H1.size = sz := hz1.trans hsz
  obtain ⟨M1, hM1⟩ : ∃ Mq, Mq = zw_u M x (.inr (2, zoR th n mb z st.fl.length (st.se + 1) st.lo st.go st.pa pt)) := ⟨_, rfl⟩
  have hH : zw_H G.1 zCl B M1 H1 := by rw [hM1]; exact hH
  have hdn : M1 z = some (.inl (G.2.1 2, 8, .inl (fun a9 => nI (st.dn a9).toNat))) := by rw [hM1, zw_un _ _ (by omega)]; exact hdn
  have hmd : M1 (z + 1) = some (.inl (G.2.1 0, 8, .inl (fun a9 => nI ((st.wt a9).length)))) := by rw [hM1, zw_un _ _ (by omega)]; exact hmd
  have hwt : M1 (z + 2) = some (.inl (G.2.1 0, 488, .inl (fun a9 => nI ((st.wt (a9 / 61)).getD (a9 % 61) 0)))) := by rw [hM1, zw_un _ _ (by omega)]; exact hwt
  have hhas : M1 (z + 3) = some (.inl (G.2.1 0, 3840, .inl (fun a9 => nI ((st.lg (a9 / 480)).getD (a9 % 480) 0)))) := by rw [hM1, zw_un _ _ (by omega)]; exact hhas
  have hmn : M1 (z + 4) = some (.inl (G.2.1 0, 8, .inl (fun a9 => nI ((st.lg a9).length)))) := by rw [hM1, zw_un _ _ (by omega)]; exact hmn
  have hrw : M1 (z + 5) = some (.inl (G.2.1 0, 120, .inl (fun a9 => nI (Y.rw a9)))) := by rw [hM1, zw_un _ _ (by omega)]; exact hrw
  have hnu : M1 (z + 6) = some (.inl (G.2.1 0, 120, .inl Y.nu)) := by rw [hM1, zw_un _ _ (by omega)]; exact hnu
  have hfr : M1 (z + 7) = some (.inl (G.2.1 0, 120, .inl Y.fr)) := by rw [hM1, zw_un _ _ (by omega)]; exact hfr
  have hto : M1 (z + 8) = some (.inl (G.2.1 0, 120, .inl Y.to)) := by rw [hM1, zw_un _ _ (by omega)]; exact hto
  have hsi : M1 (z + 9) = some (.inl (G.2.1 0, 120, .inl Y.si)) := by rw [hM1, zw_un _ _ (by omega)]; exact hsi
  have hcl : M1 (z + 10) = some (.inl (G.2.1 1, 120, .inr (.inl Y.cl))) := by rw [hM1, zw_un _ _ (by omega)]; exact hcl
  have hins : M1 (z + 11) = some (.inl (G.2.1 0, 57600, .inl Y.ins)) := by rw [hM1, zw_un _ _ (by omega)]; exact hins
  have hpart : M1 (z + 12) = some (.inl (G.2.1 0, 480, .inl Y.part)) := by rw [hM1, zw_un _ _ (by omega)]; exact hpart
  have hx0 : M1 x = some (.inr (2, zoR th n mb z st.fl.length (st.se + 1) st.lo st.go st.pa pt)) := by rw [hM1]; exact zw_us _ _ _
  refine lv_aload_n hx hb dR_send_10 rfl (lv_at hl 0 rfl) ?_
  refine va_get (D := G.1) (ci := 2) (v := .int (nI st.fl.length)) (C := RR) (T := TR) (N := 22) hx hb hz iR hown hK (hH.one hx0) 0 rfl rfl 9 (by decide) (hz _ zm_397) (fun _ h9 => h9) rfl dR_send_11 ?_
  refine lv_bipush (v := nI 120) hx hb dR_send_14 (by decide) ?_
  refine zc_ne (tgt := 36) hx hb dR_send_16 (by decide) (by omega) (by decide) (fun b1 => ?_) (fun b1 => ?_)
  · have hrb := hR.rwb _ hlt
    refine lv_aload_n hx hb dR_send_36 rfl (lv_at hl 0 rfl) ?_
    refine va_get (D := G.1) (ci := 2) (v := .ref (z + 5)) (C := RR) (T := TR) (N := 22) hx hb hz iR hown hK (hH.one hx0) 0 rfl rfl 8 (by decide) (hz _ zm_396) (fun _ h9 => h9) rfl dR_send_37 ?_
    refine lv_aload_n hx hb dR_send_40 rfl (lv_at hl 0 rfl) ?_
    refine va_get (D := G.1) (ci := 2) (v := .int (nI st.fl.length)) (C := RR) (T := TR) (N := 22) hx hb hz iR hown hK (hH.one hx0) 0 rfl rfl 9 (by decide) (hz _ zm_397) (fun _ h9 => h9) rfl dR_send_41 ?_
    refine zw_iald hx hb hK hH 0 hrw rfl (st.fl.length) rfl (hlt) (by decide) dR_send_44 ?_
    obtain ⟨row, hrow⟩ : ∃ q, q = Y.rw st.fl.length := ⟨_, rfl⟩
    refine zw_ti (congrArg nI hrow.symm) ?_
    rw [← hrow] at hrb
    refine lv_istore (lv' := [(6, .int (nI row)), (0, .ref x), (1, .int (nI sd)), (2, .int (nI rv)), (3, .int (zsz ck chs)), (4, .long cv)]) hx hb dR_send_45 hl (by decide) rfl (fun ls hl => ?_)
    refine lv_aload_n hx hb dR_send_47 rfl (lv_at hl 1 rfl) ?_
    refine lv_dup hx hb dR_send_48 rfl ?_
    refine va_get (D := G.1) (ci := 2) (v := .int (nI st.fl.length)) (C := RR) (T := TR) (N := 22) hx hb hz iR hown hK (hH.one hx0) 0 rfl rfl 9 (by decide) (hz _ zm_397) (fun _ h9 => h9) rfl dR_send_49 ?_
    refine lv_iconst (v := nI 1) hx hb dR_send_52 (by decide) ?_
    refine lv_iadd hx hb dR_send_53 ?_
    refine zw_ti (nI_add _ _) ?_
    refine zw_put (D := G.1) (ci := 2) (v := .int (nI (st.fl.length + 1))) (ty := .int) (C := RR) (T := TR) (N := 22) hx hb hz iR tR tR_ok nR hown hK hH hS hx0 rfl 9 (by decide) (hz _ zm_397) (fun _ h9 => h9) rfl (by decide +kernel) rfl rfl (Nat.le_of_ble_eq_true rfl) dR_send_54 (fun H2 L2 hH hz1 hS => ?_)
    have hsz : H2.size = sz := hz1.trans hsz
    obtain ⟨M2, hM2⟩ : ∃ Mq, Mq = zw_u M1 x (.inr (2, zoR th n mb z (st.fl.length + 1) (st.se + 1) st.lo st.go st.pa pt)) := ⟨_, rfl⟩
    have hH : zw_H G.1 zCl B M2 H2 := by rw [hM2]; exact hH
    have hdn : M2 z = some (.inl (G.2.1 2, 8, .inl (fun a9 => nI (st.dn a9).toNat))) := by rw [hM2, zw_un _ _ (by omega)]; exact hdn
    have hmd : M2 (z + 1) = some (.inl (G.2.1 0, 8, .inl (fun a9 => nI ((st.wt a9).length)))) := by rw [hM2, zw_un _ _ (by omega)]; exact hmd
    have hwt : M2 (z + 2) = some (.inl (G.2.1 0, 488, .inl (fun a9 => nI ((st.wt (a9 / 61)).getD (a9 % 61) 0)))) := by rw [hM2, zw_un _ _ (by omega)]; exact hwt
    have hhas : M2 (z + 3) = some (.inl (G.2.1 0, 3840, .inl (fun a9 => nI ((st.lg (a9 / 480)).getD (a9 % 480) 0)))) := by rw [hM2, zw_un _ _ (by omega)]; exact hhas
    have hmn : M2 (z + 4) = some (.inl (G.2.1 0, 8, .inl (fun a9 => nI ((st.lg a9).length)))) := by rw [hM2, zw_un _ _ (by omega)]; exact hmn
    have hrw : M2 (z + 5) = some (.inl (G.2.1 0, 120, .inl (fun a9 => nI (Y.rw a9)))) := by rw [hM2, zw_un _ _ (by omega)]; exact hrw
    have hnu : M2 (z + 6) = some (.inl (G.2.1 0, 120, .inl Y.nu)) := by rw [hM2, zw_un _ _ (by omega)]; exact hnu
    have hfr : M2 (z + 7) = some (.inl (G.2.1 0, 120, .inl Y.fr)) := by rw [hM2, zw_un _ _ (by omega)]; exact hfr
    have hto : M2 (z + 8) = some (.inl (G.2.1 0, 120, .inl Y.to)) := by rw [hM2, zw_un _ _ (by omega)]; exact hto
    have hsi : M2 (z + 9) = some (.inl (G.2.1 0, 120, .inl Y.si)) := by rw [hM2, zw_un _ _ (by omega)]; exact hsi
    have hcl : M2 (z + 10) = some (.inl (G.2.1 1, 120, .inr (.inl Y.cl))) := by rw [hM2, zw_un _ _ (by omega)]; exact hcl
    have hins : M2 (z + 11) = some (.inl (G.2.1 0, 57600, .inl Y.ins)) := by rw [hM2, zw_un _ _ (by omega)]; exact hins
    have hpart : M2 (z + 12) = some (.inl (G.2.1 0, 480, .inl Y.part)) := by rw [hM2, zw_un _ _ (by omega)]; exact hpart
    have hx0 : M2 x = some (.inr (2, zoR th n mb z (st.fl.length + 1) (st.se + 1) st.lo st.go st.pa pt)) := by rw [hM2]; exact zw_us _ _ _
    refine lv_aload_n hx hb dR_send_57 rfl (lv_at hl 1 rfl) ?_
    refine va_get (D := G.1) (ci := 2) (v := .ref (z + 6)) (C := RR) (T := TR) (N := 22) hx hb hz iR hown hK (hH.one hx0) 0 rfl rfl 10 (by decide) (hz _ zm_398) (fun _ h9 => h9) rfl dR_send_58 ?_
    refine lv_iload hx hb dR_send_61 (lv_at hl 0 rfl) ?_
    refine lv_aload_n hx hb dR_send_63 rfl (lv_at hl 1 rfl) ?_
    refine va_get (D := G.1) (ci := 2) (v := .int (nI (st.se + 1))) (C := RR) (T := TR) (N := 22) hx hb hz iR hown hK (hH.one hx0) 0 rfl rfl 16 (by decide) (hz _ zm_404) (fun _ h9 => h9) rfl dR_send_64 ?_
    refine lv_iconst (v := nI 1) hx hb dR_send_67 (by decide) ?_
    refine lv_isub hx hb dR_send_68 ?_
    refine zw_ti (pk_sub (by omega)) ?_
    refine zw_iast hx hb hK hH hS 0 hnu rfl (row) rfl (hrb) (by decide) dR_send_69 (fun H3 L3 hH hz1 hS => ?_)
    have hsz : H3.size = sz := hz1.trans hsz
    obtain ⟨M3, hM3⟩ : ∃ Mq, Mq = zw_u M2 (z + 6) (.inl (G.2.1 0, 120, .inl (upd Y.nu row (nI st.se)))) := ⟨_, rfl⟩
    have hH : zw_H G.1 zCl B M3 H3 := by rw [hM3]; exact hH
    have hx0 : M3 x = some (.inr (2, zoR th n mb z (st.fl.length + 1) (st.se + 1) st.lo st.go st.pa pt)) := by rw [hM3, zw_un _ _ (by omega)]; exact hx0
    have hdn : M3 z = some (.inl (G.2.1 2, 8, .inl (fun a9 => nI (st.dn a9).toNat))) := by rw [hM3, zw_un _ _ (by omega)]; exact hdn
    have hmd : M3 (z + 1) = some (.inl (G.2.1 0, 8, .inl (fun a9 => nI ((st.wt a9).length)))) := by rw [hM3, zw_un _ _ (by omega)]; exact hmd
    have hwt : M3 (z + 2) = some (.inl (G.2.1 0, 488, .inl (fun a9 => nI ((st.wt (a9 / 61)).getD (a9 % 61) 0)))) := by rw [hM3, zw_un _ _ (by omega)]; exact hwt
    have hhas : M3 (z + 3) = some (.inl (G.2.1 0, 3840, .inl (fun a9 => nI ((st.lg (a9 / 480)).getD (a9 % 480) 0)))) := by rw [hM3, zw_un _ _ (by omega)]; exact hhas
    have hmn : M3 (z + 4) = some (.inl (G.2.1 0, 8, .inl (fun a9 => nI ((st.lg a9).length)))) := by rw [hM3, zw_un _ _ (by omega)]; exact hmn
    have hrw : M3 (z + 5) = some (.inl (G.2.1 0, 120, .inl (fun a9 => nI (Y.rw a9)))) := by rw [hM3, zw_un _ _ (by omega)]; exact hrw
    have hfr : M3 (z + 7) = some (.inl (G.2.1 0, 120, .inl Y.fr)) := by rw [hM3, zw_un _ _ (by omega)]; exact hfr
    have hto : M3 (z + 8) = some (.inl (G.2.1 0, 120, .inl Y.to)) := by rw [hM3, zw_un _ _ (by omega)]; exact hto
    have hsi : M3 (z + 9) = some (.inl (G.2.1 0, 120, .inl Y.si)) := by rw [hM3, zw_un _ _ (by omega)]; exact hsi
    have hcl : M3 (z + 10) = some (.inl (G.2.1 1, 120, .inr (.inl Y.cl))) := by rw [hM3, zw_un _ _ (by omega)]; exact hcl
    have hins : M3 (z + 11) = some (.inl (G.2.1 0, 57600, .inl Y.ins)) := by rw [hM3, zw_un _ _ (by omega)]; exact hins
    have hpart : M3 (z + 12) = some (.inl (G.2.1 0, 480, .inl Y.part)) := by rw [hM3, zw_un _ _ (by omega)]; exact hpart
    have hnu : M3 (z + 6) = some (.inl (G.2.1 0, 120, .inl (upd Y.nu row (nI st.se)))) := by rw [hM3]; exact zw_us _ _ _
    refine lv_aload_n hx hb dR_send_70 rfl (lv_at hl 1 rfl) ?_
    refine va_get (D := G.1) (ci := 2) (v := .ref (z + 7)) (C := RR) (T := TR) (N := 22) hx hb hz iR hown hK (hH.one hx0) 0 rfl rfl 11 (by decide) (hz _ zm_399) (fun _ h9 => h9) rfl dR_send_71 ?_
    refine lv_iload hx hb dR_send_74 (lv_at hl 0 rfl) ?_
    refine lv_iload_n hx hb dR_send_76 rfl (lv_at hl 2 rfl) ?_
    refine zw_iast hx hb hK hH hS 0 hfr rfl (row) rfl (hrb) (by decide) dR_send_77 (fun H4 L4 hH hz1 hS => ?_)
    have hsz : H4.size = sz := hz1.trans hsz
    obtain ⟨M4, hM4⟩ : ∃ Mq, Mq = zw_u M3 (z + 7) (.inl (G.2.1 0, 120, .inl (upd Y.fr row (nI sd)))) := ⟨_, rfl⟩
    have hH : zw_H G.1 zCl B M4 H4 := by rw [hM4]; exact hH
    have hx0 : M4 x = some (.inr (2, zoR th n mb z (st.fl.length + 1) (st.se + 1) st.lo st.go st.pa pt)) := by rw [hM4, zw_un _ _ (by omega)]; exact hx0
    have hdn : M4 z = some (.inl (G.2.1 2, 8, .inl (fun a9 => nI (st.dn a9).toNat))) := by rw [hM4, zw_un _ _ (by omega)]; exact hdn
    have hmd : M4 (z + 1) = some (.inl (G.2.1 0, 8, .inl (fun a9 => nI ((st.wt a9).length)))) := by rw [hM4, zw_un _ _ (by omega)]; exact hmd
    have hwt : M4 (z + 2) = some (.inl (G.2.1 0, 488, .inl (fun a9 => nI ((st.wt (a9 / 61)).getD (a9 % 61) 0)))) := by rw [hM4, zw_un _ _ (by omega)]; exact hwt
    have hhas : M4 (z + 3) = some (.inl (G.2.1 0, 3840, .inl (fun a9 => nI ((st.lg (a9 / 480)).getD (a9 % 480) 0)))) := by rw [hM4, zw_un _ _ (by omega)]; exact hhas
    have hmn : M4 (z + 4) = some (.inl (G.2.1 0, 8, .inl (fun a9 => nI ((st.lg a9).length)))) := by rw [hM4, zw_un _ _ (by omega)]; exact hmn
    have hrw : M4 (z + 5) = some (.inl (G.2.1 0, 120, .inl (fun a9 => nI (Y.rw a9)))) := by rw [hM4, zw_un _ _ (by omega)]; exact hrw
    have hnu : M4 (z + 6) = some (.inl (G.2.1 0, 120, .inl (upd Y.nu row (nI st.se)))) := by rw [hM4, zw_un _ _ (by omega)]; exact hnu
    have hto : M4 (z + 8) = some (.inl (G.2.1 0, 120, .inl Y.to)) := by rw [hM4, zw_un _ _ (by omega)]; exact hto
    have hsi : M4 (z + 9) = some (.inl (G.2.1 0, 120, .inl Y.si)) := by rw [hM4, zw_un _ _ (by omega)]; exact hsi
    have hcl : M4 (z + 10) = some (.inl (G.2.1 1, 120, .inr (.inl Y.cl))) := by rw [hM4, zw_un _ _ (by omega)]; exact hcl
    have hins : M4 (z + 11) = some (.inl (G.2.1 0, 57600, .inl Y.ins)) := by rw [hM4, zw_un _ _ (by omega)]; exact hins
    have hpart : M4 (z + 12) = some (.inl (G.2.1 0, 480, .inl Y.part)) := by rw [hM4, zw_un _ _ (by omega)]; exact hpart
    have hfr : M4 (z + 7) = some (.inl (G.2.1 0, 120, .inl (upd Y.fr row (nI sd)))) := by rw [hM4]; exact zw_us _ _ _
    refine lv_aload_n hx hb dR_send_78 rfl (lv_at hl 1 rfl) ?_
    refine va_get (D := G.1) (ci := 2) (v := .ref (z + 8)) (C := RR) (T := TR) (N := 22) hx hb hz iR hown hK (hH.one hx0) 0 rfl rfl 12 (by decide) (hz _ zm_400) (fun _ h9 => h9) rfl dR_send_79 ?_
    refine lv_iload hx hb dR_send_82 (lv_at hl 0 rfl) ?_
    refine lv_iload_n hx hb dR_send_84 rfl (lv_at hl 3 rfl) ?_
    refine zw_iast hx hb hK hH hS 0 hto rfl (row) rfl (hrb) (by decide) dR_send_85 (fun H5 L5 hH hz1 hS => ?_)
    have hsz : H5.size = sz := hz1.trans hsz
    obtain ⟨M5, hM5⟩ : ∃ Mq, Mq = zw_u M4 (z + 8) (.inl (G.2.1 0, 120, .inl (upd Y.to row (nI rv)))) := ⟨_, rfl⟩
    have hH : zw_H G.1 zCl B M5 H5 := by rw [hM5]; exact hH
    have hx0 : M5 x = some (.inr (2, zoR th n mb z (st.fl.length + 1) (st.se + 1) st.lo st.go st.pa pt)) := by rw [hM5, zw_un _ _ (by omega)]; exact hx0
    have hdn : M5 z = some (.inl (G.2.1 2, 8, .inl (fun a9 => nI (st.dn a9).toNat))) := by rw [hM5, zw_un _ _ (by omega)]; exact hdn
    have hmd : M5 (z + 1) = some (.inl (G.2.1 0, 8, .inl (fun a9 => nI ((st.wt a9).length)))) := by rw [hM5, zw_un _ _ (by omega)]; exact hmd
    have hwt : M5 (z + 2) = some (.inl (G.2.1 0, 488, .inl (fun a9 => nI ((st.wt (a9 / 61)).getD (a9 % 61) 0)))) := by rw [hM5, zw_un _ _ (by omega)]; exact hwt
    have hhas : M5 (z + 3) = some (.inl (G.2.1 0, 3840, .inl (fun a9 => nI ((st.lg (a9 / 480)).getD (a9 % 480) 0)))) := by rw [hM5, zw_un _ _ (by omega)]; exact hhas
    have hmn : M5 (z + 4) = some (.inl (G.2.1 0, 8, .inl (fun a9 => nI ((st.lg a9).length)))) := by rw [hM5, zw_un _ _ (by omega)]; exact hmn
    have hrw : M5 (z + 5) = some (.inl (G.2.1 0, 120, .inl (fun a9 => nI (Y.rw a9)))) := by rw [hM5, zw_un _ _ (by omega)]; exact hrw
    have hnu : M5 (z + 6) = some (.inl (G.2.1 0, 120, .inl (upd Y.nu row (nI st.se)))) := by rw [hM5, zw_un _ _ (by omega)]; exact hnu
    have hfr : M5 (z + 7) = some (.inl (G.2.1 0, 120, .inl (upd Y.fr row (nI sd)))) := by rw [hM5, zw_un _ _ (by omega)]; exact hfr
    have hsi : M5 (z + 9) = some (.inl (G.2.1 0, 120, .inl Y.si)) := by rw [hM5, zw_un _ _ (by omega)]; exact hsi
    have hcl : M5 (z + 10) = some (.inl (G.2.1 1, 120, .inr (.inl Y.cl))) := by rw [hM5, zw_un _ _ (by omega)]; exact hcl
    have hins : M5 (z + 11) = some (.inl (G.2.1 0, 57600, .inl Y.ins)) := by rw [hM5, zw_un _ _ (by omega)]; exact hins
    have hpart : M5 (z + 12) = some (.inl (G.2.1 0, 480, .inl Y.part)) := by rw [hM5, zw_un _ _ (by omega)]; exact hpart
    have hto : M5 (z + 8) = some (.inl (G.2.1 0, 120, .inl (upd Y.to row (nI rv)))) := by rw [hM5]; exact zw_us _ _ _
    refine lv_aload_n hx hb dR_send_86 rfl (lv_at hl 1 rfl) ?_
    refine va_get (D := G.1) (ci := 2) (v := .ref (z + 9)) (C := RR) (T := TR) (N := 22) hx hb hz iR hown hK (hH.one hx0) 0 rfl rfl 13 (by decide) (hz _ zm_401) (fun _ h9 => h9) rfl dR_send_87 ?_
    refine lv_iload hx hb dR_send_90 (lv_at hl 0 rfl) ?_
    refine lv_iload_n hx hb dR_send_92 rfl (lv_at hl 4 rfl) ?_
    refine zw_iast hx hb hK hH hS 0 hsi rfl (row) rfl (hrb) (by decide) dR_send_93 (fun H6 L6 hH hz1 hS => ?_)
    have hsz : H6.size = sz := hz1.trans hsz
    obtain ⟨M6, hM6⟩ : ∃ Mq, Mq = zw_u M5 (z + 9) (.inl (G.2.1 0, 120, .inl (upd Y.si row (zsz ck chs)))) := ⟨_, rfl⟩
    have hH : zw_H G.1 zCl B M6 H6 := by rw [hM6]; exact hH
    have hx0 : M6 x = some (.inr (2, zoR th n mb z (st.fl.length + 1) (st.se + 1) st.lo st.go st.pa pt)) := by rw [hM6, zw_un _ _ (by omega)]; exact hx0
    have hdn : M6 z = some (.inl (G.2.1 2, 8, .inl (fun a9 => nI (st.dn a9).toNat))) := by rw [hM6, zw_un _ _ (by omega)]; exact hdn
    have hmd : M6 (z + 1) = some (.inl (G.2.1 0, 8, .inl (fun a9 => nI ((st.wt a9).length)))) := by rw [hM6, zw_un _ _ (by omega)]; exact hmd
    have hwt : M6 (z + 2) = some (.inl (G.2.1 0, 488, .inl (fun a9 => nI ((st.wt (a9 / 61)).getD (a9 % 61) 0)))) := by rw [hM6, zw_un _ _ (by omega)]; exact hwt
    have hhas : M6 (z + 3) = some (.inl (G.2.1 0, 3840, .inl (fun a9 => nI ((st.lg (a9 / 480)).getD (a9 % 480) 0)))) := by rw [hM6, zw_un _ _ (by omega)]; exact hhas
    have hmn : M6 (z + 4) = some (.inl (G.2.1 0, 8, .inl (fun a9 => nI ((st.lg a9).length)))) := by rw [hM6, zw_un _ _ (by omega)]; exact hmn
    have hrw : M6 (z + 5) = some (.inl (G.2.1 0, 120, .inl (fun a9 => nI (Y.rw a9)))) := by rw [hM6, zw_un _ _ (by omega)]; exact hrw
    have hnu : M6 (z + 6) = some (.inl (G.2.1 0, 120, .inl (upd Y.nu row (nI st.se)))) := by rw [hM6, zw_un _ _ (by omega)]; exact hnu
    have hfr : M6 (z + 7) = some (.inl (G.2.1 0, 120, .inl (upd Y.fr row (nI sd)))) := by rw [hM6, zw_un _ _ (by omega)]; exact hfr
    have hto : M6 (z + 8) = some (.inl (G.2.1 0, 120, .inl (upd Y.to row (nI rv)))) := by rw [hM6, zw_un _ _ (by omega)]; exact hto
    have hcl : M6 (z + 10) = some (.inl (G.2.1 1, 120, .inr (.inl Y.cl))) := by rw [hM6, zw_un _ _ (by omega)]; exact hcl
    have hins : M6 (z + 11) = some (.inl (G.2.1 0, 57600, .inl Y.ins)) := by rw [hM6, zw_un _ _ (by omega)]; exact hins
    have hpart : M6 (z + 12) = some (.inl (G.2.1 0, 480, .inl Y.part)) := by rw [hM6, zw_un _ _ (by omega)]; exact hpart
    have hsi : M6 (z + 9) = some (.inl (G.2.1 0, 120, .inl (upd Y.si row (zsz ck chs)))) := by rw [hM6]; exact zw_us _ _ _
    refine lv_aload_n hx hb dR_send_94 rfl (lv_at hl 1 rfl) ?_
    refine va_get (D := G.1) (ci := 2) (v := .ref (z + 10)) (C := RR) (T := TR) (N := 22) hx hb hz iR hown hK (hH.one hx0) 0 rfl rfl 14 (by decide) (hz _ zm_402) (fun _ h9 => h9) rfl dR_send_95 ?_
    refine lv_iload hx hb dR_send_98 (lv_at hl 0 rfl) ?_
    refine lv_lload hx hb dR_send_100 (lv_at hl 5 rfl) ?_
    refine zw_last hx hb hK hH hS 1 hcl rfl (row) rfl (hrb) (by decide) dR_send_102 (fun H7 L7 hH hz1 hS => ?_)
    have hsz : H7.size = sz := hz1.trans hsz
    obtain ⟨M7, hM7⟩ : ∃ Mq, Mq = zw_u M6 (z + 10) (.inl (G.2.1 1, 120, .inr (.inl (vp_updL Y.cl row cv)))) := ⟨_, rfl⟩
    have hH : zw_H G.1 zCl B M7 H7 := by rw [hM7]; exact hH
    have hx0 : M7 x = some (.inr (2, zoR th n mb z (st.fl.length + 1) (st.se + 1) st.lo st.go st.pa pt)) := by rw [hM7, zw_un _ _ (by omega)]; exact hx0
    have hdn : M7 z = some (.inl (G.2.1 2, 8, .inl (fun a9 => nI (st.dn a9).toNat))) := by rw [hM7, zw_un _ _ (by omega)]; exact hdn
    have hmd : M7 (z + 1) = some (.inl (G.2.1 0, 8, .inl (fun a9 => nI ((st.wt a9).length)))) := by rw [hM7, zw_un _ _ (by omega)]; exact hmd
    have hwt : M7 (z + 2) = some (.inl (G.2.1 0, 488, .inl (fun a9 => nI ((st.wt (a9 / 61)).getD (a9 % 61) 0)))) := by rw [hM7, zw_un _ _ (by omega)]; exact hwt
    have hhas : M7 (z + 3) = some (.inl (G.2.1 0, 3840, .inl (fun a9 => nI ((st.lg (a9 / 480)).getD (a9 % 480) 0)))) := by rw [hM7, zw_un _ _ (by omega)]; exact hhas
    have hmn : M7 (z + 4) = some (.inl (G.2.1 0, 8, .inl (fun a9 => nI ((st.lg a9).length)))) := by rw [hM7, zw_un _ _ (by omega)]; exact hmn
    have hrw : M7 (z + 5) = some (.inl (G.2.1 0, 120, .inl (fun a9 => nI (Y.rw a9)))) := by rw [hM7, zw_un _ _ (by omega)]; exact hrw
    have hnu : M7 (z + 6) = some (.inl (G.2.1 0, 120, .inl (upd Y.nu row (nI st.se)))) := by rw [hM7, zw_un _ _ (by omega)]; exact hnu
    have hfr : M7 (z + 7) = some (.inl (G.2.1 0, 120, .inl (upd Y.fr row (nI sd)))) := by rw [hM7, zw_un _ _ (by omega)]; exact hfr
    have hto : M7 (z + 8) = some (.inl (G.2.1 0, 120, .inl (upd Y.to row (nI rv)))) := by rw [hM7, zw_un _ _ (by omega)]; exact hto
    have hsi : M7 (z + 9) = some (.inl (G.2.1 0, 120, .inl (upd Y.si row (zsz ck chs)))) := by rw [hM7, zw_un _ _ (by omega)]; exact hsi
    have hins : M7 (z + 11) = some (.inl (G.2.1 0, 57600, .inl Y.ins)) := by rw [hM7, zw_un _ _ (by omega)]; exact hins
    have hpart : M7 (z + 12) = some (.inl (G.2.1 0, 480, .inl Y.part)) := by rw [hM7, zw_un _ _ (by omega)]; exact hpart
    have hcl : M7 (z + 10) = some (.inl (G.2.1 1, 120, .inr (.inl (vp_updL Y.cl row cv)))) := by rw [hM7]; exact zw_us _ _ _
    refine lv_iconst (v := nI 0) hx hb dR_send_103 (by decide) ?_
    refine lv_istore (lv' := [(7, .int (nI 0)), (6, .int (nI row)), (0, .ref x), (1, .int (nI sd)), (2, .int (nI rv)), (3, .int (zsz ck chs)), (4, .long cv)]) hx hb dR_send_104 hl (by decide) rfl (fun ls hl => ?_)
    have hfz : zrf x z M M7 := fun q h1 h2 => by rw [hM7, zw_un _ _ (by omega), hM6, zw_un _ _ (by omega), hM5, zw_un _ _ (by omega), hM4, zw_un _ _ (by omega), hM3, zw_un _ _ (by omega), hM2, zw_un _ _ (by omega), hM1, zw_un _ _ (by omega)]
    have hsnd : zsend st sd rv bq ck chs = zSt.mk st.dn st.lg st.wt (st.fl ++ [zMg.mk st.se sd rv bq ck chs]) (st.se + 1) st.lo st.go st.pa := if_pos hlt
    have hms := zRX_send (sd := sd) (rv := rv) (bq := bq) hrow hlt hR.rwb hR.rwi (fun i mg h => ⟨hR.msg i mg h, hm8 mg (List.mem_of_getElem? h)⟩) hcv hpt hl4
    rw [hsnd]
    refine lv_iload hx hb dR_send_106 (lv_at hl 0 rfl) ?_
    refine lv_iload_n hx hb dR_send_108 rfl (lv_at hl 5 rfl) ?_
    have hch : chs.length = 0 := by rw [hch0]; rfl
    have hsz1 : zsz ck chs = -1 := by rw [hk]; rfl
    refine lv_icmp_ge (tgt := 139) hx hb dR_send_109 (by decide) (fun _ => ?_) (fun h => absurd (by rw [hsz1]; decide) h)
    rw [show Y.ins = zcp Y.ins Y.part (480 * row) chs.length by rw [hch, zcp_0]] at hins
    refine lv_aload_n hx hb dR_send_139 rfl (lv_at hl 2 rfl) ?_
    refine va_get (D := G.1) (ci := 2) (v := .int (nI (st.se + 1))) (C := RR) (T := TR) (N := 22) hx hb hz iR hown hK (hH.one hx0) 0 rfl rfl 16 (by decide) (hz _ zm_404) (fun _ h9 => h9) rfl dR_send_140 ?_
    refine lv_iconst (v := nI 1) hx hb dR_send_143 (by decide) ?_
    refine lv_isub hx hb dR_send_144 ?_
    refine zw_ti (pk_sub (by omega)) ?_
    have hxe : M7 x = some (.inr (2, zoR th n mb z (st.fl ++ [zMg.mk st.se sd rv bq ck chs]).length (st.se + 1) st.lo st.go st.pa pt)) := by rw [List.length_append]; exact hx0
    have hx0 := hxe
    exact W.iret (v := (nI st.se)) hx hb hr (fun t ht hW => ⟨⟨(nI st.se), (M7, sz), rfl, ⟨rfl, ⟨(zRX.mk Y.rw (upd Y.nu row (nI st.se)) (upd Y.fr row (nI sd)) (upd Y.to row (nI rv)) (upd Y.si row (zsz ck chs)) (vp_updL Y.cl row cv) (zcp Y.ins Y.part (480 * row) chs.length) Y.part), ⟨hxz, hx0, hdn, hmd, hwt, hhas, hmn, hrw, hnu, hfr, hto, hsi, hcl, hins, hpart, hR.rwb, hR.rwi, hms⟩⟩, hfz, rfl⟩, by rw [ht]; exact hH, by rw [ht]; exact hsz⟩, hS.F ht⟩) hS.2.2 dR_send_145
  · exact absurd b1 (by omega)

set_option maxHeartbeats 4000000 in
set_option maxRecDepth 100000 in
theorem kR_send_part (l : Launch) (G : zG) (B : Nat) (M : zw_M) (sz : Nat) (x z n mb : Nat) (st : zSt) (th pt : Nat) (Y : zRX) (hn : n ≤ 8) (hR : zRR G M x z n mb st th pt Y) (sd rv bq : Nat) (ck : Option Int64) (chs : List Nat) (cv : Int64) (hm8 : ∀ mg ∈ st.fl, mg.chs.length ≤ 480) (hcv : ∀ k, ck = some k → cv = k) (hpt : ∀ k, k < chs.length → Y.part k = nI (chs.getD k 0)) (hl4 : chs.length ≤ 480) (hk : ck = none) (hlt : st.fl.length < 120) : Met l yR_send (Cond.code yR_send bR_send 8 (some .int) :: zT) { frames := 0, cells := 0, slots := 0, locals := 0 } (zq G B M sz [.ref x, .int (nI sd), .int (nI rv), .int (zsz ck chs), .long cv]) (va_Qi (fun (r : Int32) (u : zw_M × Nat) => r = nI st.se ∧ (∃ Y2 : zRX, zRR G u.1 x z n mb (zsend st sd rv bq ck chs) th pt Y2) ∧ zrf x z M u.1 ∧ u.2 = sz) (zr_o G.1 zCl B) (zw_A B)) (0) (0) (zw_A B) := by
  refine Met.ofW (cc := bR_send) (maxL := 8) (ret := (some .int)) (by decide) rfl ?_
  intro p e s m args below meth c s₁ B0 hml hv
  obtain ⟨rfl, hE, hH, hsz⟩ := hv
  have hx := B0.exec
  have hb := B0.bytes
  have hr := B0.returns
  have hlocks := B0.notSynchronized
  have hz : ∀ w ∈ zT, w.before _ s = true := fun w h => atoms_spec (ws := Cond.code yR_send bR_send 8 (some .int) :: zT) B0.pre w (List.mem_cons_of_mem _ h)
  have hown : s.vm.findClass RR = some m.cls := findClass_of_methodNamed B0.named
  have hK := hE.1
  have hl := lv_entry ([.ref x, .int (nI sd), .int (nI rv), .int (zsz ck chs), .long cv]) (n := 8) (Nat.le_of_ble_eq_true rfl)
  rw [lg_entry_eq]
  generalize (lg_sl ([.ref x, .int (nI sd), .int (nI rv), .int (zsz ck chs), .long cv]) ++ List.replicate (8 - (lg_sl ([.ref x, .int (nI sd), .int (nI rv), .int (zsz ck chs), .long cv])).length) Slot.unset).toArray = ls at hl ⊢
  have hl : lv_has ls 8 [(0, .ref x), (1, .int (nI sd)), (2, .int (nI rv)), (3, .int (zsz ck chs)), (4, .long cv)] := hl
  have hS : va_S (zw_A B) s.heap s.heap [] := va_S.rf
  have hin : meth.name = "send" := (name_of_methodNamed B0.named B0.method).1
  have hsz1 : zsz ck chs = nI chs.length := by rw [hk]; rfl
  rw [hsz1] at hl
  have hl : lv_has ls 8 [(0, .ref x), (1, .int (nI sd)), (2, .int (nI rv)), (3, .int (nI chs.length)), (4, .long cv)] := hl
  have hx0 := hR.obj
  have hdn := hR.dn
  have hmd := hR.md
  have hwt := hR.wt
  have hhas := hR.has
  have hmn := hR.mn
  have hrw := hR.rw
  have hnu := hR.nu
  have hfr := hR.fr
  have hto := hR.to
  have hsi := hR.si
  have hcl := hR.cl
  have hins := hR.ins
  have hpart := hR.part
  have hxz := hR.xz
  refine lv_aload_n hx hb dR_send_0 rfl (lv_at hl 0 rfl) ?_
  refine lv_dup hx hb dR_send_1 rfl ?_
  refine va_get (D := G.1) (ci := 2) (v := .int (nI st.se)) (C := RR) (T := TR) (N := 22) hx hb hz iR hown hK (hH.one hx0) 0 rfl rfl 16 (by decide) (hz _ zm_404) (fun _ h9 => h9) rfl dR_send_2 ?_
  refine lv_iconst (v := nI 1) hx hb dR_send_5 (by decide) ?_
  refine lv_iadd hx hb dR_send_6 ?_
  refine zw_ti (nI_add _ _) ?_
  refine zw_put (D := G.1) (ci := 2) (v := .int (nI (st.se + 1))) (ty := .int) (C := RR) (T := TR) (N := 22) hx hb hz iR tR tR_ok nR hown hK hH hS hx0 rfl 16 (by decide) (hz _ zm_404) (fun _ h9 => h9) rfl (by decide +kernel) rfl rfl (Nat.le_of_ble_eq_true rfl) dR_send_7 (fun H1 L1 hH hz1 hS => ?_)
  have hsz : H1.size = sz := hz1.trans hsz
  obtain ⟨M1, hM1⟩ : ∃ Mq, Mq = zw_u M x (.inr (2, zoR th n mb z st.fl.length (st.se + 1) st.lo st.go st.pa pt)) := ⟨_, rfl⟩
  have hH : zw_H G.1 zCl B M1 H1 := by rw [hM1]; exact hH
  have hdn : M1 z = some (.inl (G.2.1 2, 8, .inl (fun a9 => nI (st.dn a9).toNat))) := by rw [hM1, zw_un _ _ (by omega)]; exact hdn
  have hmd : M1 (z + 1) = some (.inl (G.2.1 0, 8, .inl (fun a9 => nI ((st.wt a9).length)))) := by rw [hM1, zw_un _ _ (by omega)]; exact hmd
  have hwt : M1 (z + 2) = some (.inl (G.2.1 0, 488, .inl (fun a9 => nI ((st.wt (a9 / 61)).getD (a9 % 61) 0)))) := by rw [hM1, zw_un _ _ (by omega)]; exact hwt
  have hhas : M1 (z + 3) = some (.inl (G.2.1 0, 3840, .inl (fun a9 => nI ((st.lg (a9 / 480)).getD (a9 % 480) 0)))) := by rw [hM1, zw_un _ _ (by omega)]; exact hhas
  have hmn : M1 (z + 4) = some (.inl (G.2.1 0, 8, .inl (fun a9 => nI ((st.lg a9).length)))) := by rw [hM1, zw_un _ _ (by omega)]; exact hmn
  have hrw : M1 (z + 5) = some (.inl (G.2.1 0, 120, .inl (fun a9 => nI (Y.rw a9)))) := by rw [hM1, zw_un _ _ (by omega)]; exact hrw
  have hnu : M1 (z + 6) = some (.inl (G.2.1 0, 120, .inl Y.nu)) := by rw [hM1, zw_un _ _ (by omega)]; exact hnu
  have hfr : M1 (z + 7) = some (.inl (G.2.1 0, 120, .inl Y.fr)) := by rw [hM1, zw_un _ _ (by omega)]; exact hfr
  have hto : M1 (z + 8) = some (.inl (G.2.1 0, 120, .inl Y.to)) := by rw [hM1, zw_un _ _ (by omega)]; exact hto
  have hsi : M1 (z + 9) = some (.inl (G.2.1 0, 120, .inl Y.si)) := by rw [hM1, zw_un _ _ (by omega)]; exact hsi
  have hcl : M1 (z + 10) = some (.inl (G.2.1 1, 120, .inr (.inl Y.cl))) := by rw [hM1, zw_un _ _ (by omega)]; exact hcl
  have hins : M1 (z + 11) = some (.inl (G.2.1 0, 57600, .inl Y.ins)) := by rw [hM1, zw_un _ _ (by omega)]; exact hins
  have hpart : M1 (z + 12) = some (.inl (G.2.1 0, 480, .inl Y.part)) := by rw [hM1, zw_un _ _ (by omega)]; exact hpart
  have hx0 : M1 x = some (.inr (2, zoR th n mb z st.fl.length (st.se + 1) st.lo st.go st.pa pt)) := by rw [hM1]; exact zw_us _ _ _
  refine lv_aload_n hx hb dR_send_10 rfl (lv_at hl 0 rfl) ?_
  refine va_get (D := G.1) (ci := 2) (v := .int (nI st.fl.length)) (C := RR) (T := TR) (N := 22) hx hb hz iR hown hK (hH.one hx0) 0 rfl rfl 9 (by decide) (hz _ zm_397) (fun _ h9 => h9) rfl dR_send_11 ?_
  refine lv_bipush (v := nI 120) hx hb dR_send_14 (by decide) ?_
  refine zc_ne (tgt := 36) hx hb dR_send_16 (by decide) (by omega) (by decide) (fun b1 => ?_) (fun b1 => ?_)
  · have hrb := hR.rwb _ hlt
    refine lv_aload_n hx hb dR_send_36 rfl (lv_at hl 0 rfl) ?_
    refine va_get (D := G.1) (ci := 2) (v := .ref (z + 5)) (C := RR) (T := TR) (N := 22) hx hb hz iR hown hK (hH.one hx0) 0 rfl rfl 8 (by decide) (hz _ zm_396) (fun _ h9 => h9) rfl dR_send_37 ?_
    refine lv_aload_n hx hb dR_send_40 rfl (lv_at hl 0 rfl) ?_
    refine va_get (D := G.1) (ci := 2) (v := .int (nI st.fl.length)) (C := RR) (T := TR) (N := 22) hx hb hz iR hown hK (hH.one hx0) 0 rfl rfl 9 (by decide) (hz _ zm_397) (fun _ h9 => h9) rfl dR_send_41 ?_
    refine zw_iald hx hb hK hH 0 hrw rfl (st.fl.length) rfl (hlt) (by decide) dR_send_44 ?_
    obtain ⟨row, hrow⟩ : ∃ q, q = Y.rw st.fl.length := ⟨_, rfl⟩
    refine zw_ti (congrArg nI hrow.symm) ?_
    rw [← hrow] at hrb
    refine lv_istore (lv' := [(6, .int (nI row)), (0, .ref x), (1, .int (nI sd)), (2, .int (nI rv)), (3, .int (nI chs.length)), (4, .long cv)]) hx hb dR_send_45 hl (by decide) rfl (fun ls hl => ?_)
    refine lv_aload_n hx hb dR_send_47 rfl (lv_at hl 1 rfl) ?_
    refine lv_dup hx hb dR_send_48 rfl ?_
    refine va_get (D := G.1) (ci := 2) (v := .int (nI st.fl.length)) (C := RR) (T := TR) (N := 22) hx hb hz iR hown hK (hH.one hx0) 0 rfl rfl 9 (by decide) (hz _ zm_397) (fun _ h9 => h9) rfl dR_send_49 ?_
    refine lv_iconst (v := nI 1) hx hb dR_send_52 (by decide) ?_
    refine lv_iadd hx hb dR_send_53 ?_
    refine zw_ti (nI_add _ _) ?_
    refine zw_put (D := G.1) (ci := 2) (v := .int (nI (st.fl.length + 1))) (ty := .int) (C := RR) (T := TR) (N := 22) hx hb hz iR tR tR_ok nR hown hK hH hS hx0 rfl 9 (by decide) (hz _ zm_397) (fun _ h9 => h9) rfl (by decide +kernel) rfl rfl (Nat.le_of_ble_eq_true rfl) dR_send_54 (fun H2 L2 hH hz1 hS => ?_)
    have hsz : H2.size = sz := hz1.trans hsz
    obtain ⟨M2, hM2⟩ : ∃ Mq, Mq = zw_u M1 x (.inr (2, zoR th n mb z (st.fl.length + 1) (st.se + 1) st.lo st.go st.pa pt)) := ⟨_, rfl⟩
    have hH : zw_H G.1 zCl B M2 H2 := by rw [hM2]; exact hH
    have hdn : M2 z = some (.inl (G.2.1 2, 8, .inl (fun a9 => nI (st.dn a9).toNat))) := by rw [hM2, zw_un _ _ (by omega)]; exact hdn
    have hmd : M2 (z + 1) = some (.inl (G.2.1 0, 8, .inl (fun a9 => nI ((st.wt a9).length)))) := by rw [hM2, zw_un _ _ (by omega)]; exact hmd
    have hwt : M2 (z + 2) = some (.inl (G.2.1 0, 488, .inl (fun a9 => nI ((st.wt (a9 / 61)).getD (a9 % 61) 0)))) := by rw [hM2, zw_un _ _ (by omega)]; exact hwt
    have hhas : M2 (z + 3) = some (.inl (G.2.1 0, 3840, .inl (fun a9 => nI ((st.lg (a9 / 480)).getD (a9 % 480) 0)))) := by rw [hM2, zw_un _ _ (by omega)]; exact hhas
    have hmn : M2 (z + 4) = some (.inl (G.2.1 0, 8, .inl (fun a9 => nI ((st.lg a9).length)))) := by rw [hM2, zw_un _ _ (by omega)]; exact hmn
    have hrw : M2 (z + 5) = some (.inl (G.2.1 0, 120, .inl (fun a9 => nI (Y.rw a9)))) := by rw [hM2, zw_un _ _ (by omega)]; exact hrw
    have hnu : M2 (z + 6) = some (.inl (G.2.1 0, 120, .inl Y.nu)) := by rw [hM2, zw_un _ _ (by omega)]; exact hnu
    have hfr : M2 (z + 7) = some (.inl (G.2.1 0, 120, .inl Y.fr)) := by rw [hM2, zw_un _ _ (by omega)]; exact hfr
    have hto : M2 (z + 8) = some (.inl (G.2.1 0, 120, .inl Y.to)) := by rw [hM2, zw_un _ _ (by omega)]; exact hto
    have hsi : M2 (z + 9) = some (.inl (G.2.1 0, 120, .inl Y.si)) := by rw [hM2, zw_un _ _ (by omega)]; exact hsi
    have hcl : M2 (z + 10) = some (.inl (G.2.1 1, 120, .inr (.inl Y.cl))) := by rw [hM2, zw_un _ _ (by omega)]; exact hcl
    have hins : M2 (z + 11) = some (.inl (G.2.1 0, 57600, .inl Y.ins)) := by rw [hM2, zw_un _ _ (by omega)]; exact hins
    have hpart : M2 (z + 12) = some (.inl (G.2.1 0, 480, .inl Y.part)) := by rw [hM2, zw_un _ _ (by omega)]; exact hpart
    have hx0 : M2 x = some (.inr (2, zoR th n mb z (st.fl.length + 1) (st.se + 1) st.lo st.go st.pa pt)) := by rw [hM2]; exact zw_us _ _ _
    refine lv_aload_n hx hb dR_send_57 rfl (lv_at hl 1 rfl) ?_
    refine va_get (D := G.1) (ci := 2) (v := .ref (z + 6)) (C := RR) (T := TR) (N := 22) hx hb hz iR hown hK (hH.one hx0) 0 rfl rfl 10 (by decide) (hz _ zm_398) (fun _ h9 => h9) rfl dR_send_58 ?_
    refine lv_iload hx hb dR_send_61 (lv_at hl 0 rfl) ?_
    refine lv_aload_n hx hb dR_send_63 rfl (lv_at hl 1 rfl) ?_
    refine va_get (D := G.1) (ci := 2) (v := .int (nI (st.se + 1))) (C := RR) (T := TR) (N := 22) hx hb hz iR hown hK (hH.one hx0) 0 rfl rfl 16 (by decide) (hz _ zm_404) (fun _ h9 => h9) rfl dR_send_64 ?_
    refine lv_iconst (v := nI 1) hx hb dR_send_67 (by decide) ?_
    refine lv_isub hx hb dR_send_68 ?_
    refine zw_ti (pk_sub (by omega)) ?_
    refine zw_iast hx hb hK hH hS 0 hnu rfl (row) rfl (hrb) (by decide) dR_send_69 (fun H3 L3 hH hz1 hS => ?_)
    have hsz : H3.size = sz := hz1.trans hsz
    obtain ⟨M3, hM3⟩ : ∃ Mq, Mq = zw_u M2 (z + 6) (.inl (G.2.1 0, 120, .inl (upd Y.nu row (nI st.se)))) := ⟨_, rfl⟩
    have hH : zw_H G.1 zCl B M3 H3 := by rw [hM3]; exact hH
    have hx0 : M3 x = some (.inr (2, zoR th n mb z (st.fl.length + 1) (st.se + 1) st.lo st.go st.pa pt)) := by rw [hM3, zw_un _ _ (by omega)]; exact hx0
    have hdn : M3 z = some (.inl (G.2.1 2, 8, .inl (fun a9 => nI (st.dn a9).toNat))) := by rw [hM3, zw_un _ _ (by omega)]; exact hdn
    have hmd : M3 (z + 1) = some (.inl (G.2.1 0, 8, .inl (fun a9 => nI ((st.wt a9).length)))) := by rw [hM3, zw_un _ _ (by omega)]; exact hmd
    have hwt : M3 (z + 2) = some (.inl (G.2.1 0, 488, .inl (fun a9 => nI ((st.wt (a9 / 61)).getD (a9 % 61) 0)))) := by rw [hM3, zw_un _ _ (by omega)]; exact hwt
    have hhas : M3 (z + 3) = some (.inl (G.2.1 0, 3840, .inl (fun a9 => nI ((st.lg (a9 / 480)).getD (a9 % 480) 0)))) := by rw [hM3, zw_un _ _ (by omega)]; exact hhas
    have hmn : M3 (z + 4) = some (.inl (G.2.1 0, 8, .inl (fun a9 => nI ((st.lg a9).length)))) := by rw [hM3, zw_un _ _ (by omega)]; exact hmn
    have hrw : M3 (z + 5) = some (.inl (G.2.1 0, 120, .inl (fun a9 => nI (Y.rw a9)))) := by rw [hM3, zw_un _ _ (by omega)]; exact hrw
    have hfr : M3 (z + 7) = some (.inl (G.2.1 0, 120, .inl Y.fr)) := by rw [hM3, zw_un _ _ (by omega)]; exact hfr
    have hto : M3 (z + 8) = some (.inl (G.2.1 0, 120, .inl Y.to)) := by rw [hM3, zw_un _ _ (by omega)]; exact hto
    have hsi : M3 (z + 9) = some (.inl (G.2.1 0, 120, .inl Y.si)) := by rw [hM3, zw_un _ _ (by omega)]; exact hsi
    have hcl : M3 (z + 10) = some (.inl (G.2.1 1, 120, .inr (.inl Y.cl))) := by rw [hM3, zw_un _ _ (by omega)]; exact hcl
    have hins : M3 (z + 11) = some (.inl (G.2.1 0, 57600, .inl Y.ins)) := by rw [hM3, zw_un _ _ (by omega)]; exact hins
    have hpart : M3 (z + 12) = some (.inl (G.2.1 0, 480, .inl Y.part)) := by rw [hM3, zw_un _ _ (by omega)]; exact hpart
    have hnu : M3 (z + 6) = some (.inl (G.2.1 0, 120, .inl (upd Y.nu row (nI st.se)))) := by rw [hM3]; exact zw_us _ _ _
    refine lv_aload_n hx hb dR_send_70 rfl (lv_at hl 1 rfl) ?_
    refine va_get (D := G.1) (ci := 2) (v := .ref (z + 7)) (C := RR) (T := TR) (N := 22) hx hb hz iR hown hK (hH.one hx0) 0 rfl rfl 11 (by decide) (hz _ zm_399) (fun _ h9 => h9) rfl dR_send_71 ?_
    refine lv_iload hx hb dR_send_74 (lv_at hl 0 rfl) ?_
    refine lv_iload_n hx hb dR_send_76 rfl (lv_at hl 2 rfl) ?_
    refine zw_iast hx hb hK hH hS 0 hfr rfl (row) rfl (hrb) (by decide) dR_send_77 (fun H4 L4 hH hz1 hS => ?_)
    have hsz : H4.size = sz := hz1.trans hsz
    obtain ⟨M4, hM4⟩ : ∃ Mq, Mq = zw_u M3 (z + 7) (.inl (G.2.1 0, 120, .inl (upd Y.fr row (nI sd)))) := ⟨_, rfl⟩
    have hH : zw_H G.1 zCl B M4 H4 := by rw [hM4]; exact hH
    have hx0 : M4 x = some (.inr (2, zoR th n mb z (st.fl.length + 1) (st.se + 1) st.lo st.go st.pa pt)) := by rw [hM4, zw_un _ _ (by omega)]; exact hx0
    have hdn : M4 z = some (.inl (G.2.1 2, 8, .inl (fun a9 => nI (st.dn a9).toNat))) := by rw [hM4, zw_un _ _ (by omega)]; exact hdn
    have hmd : M4 (z + 1) = some (.inl (G.2.1 0, 8, .inl (fun a9 => nI ((st.wt a9).length)))) := by rw [hM4, zw_un _ _ (by omega)]; exact hmd
    have hwt : M4 (z + 2) = some (.inl (G.2.1 0, 488, .inl (fun a9 => nI ((st.wt (a9 / 61)).getD (a9 % 61) 0)))) := by rw [hM4, zw_un _ _ (by omega)]; exact hwt
    have hhas : M4 (z + 3) = some (.inl (G.2.1 0, 3840, .inl (fun a9 => nI ((st.lg (a9 / 480)).getD (a9 % 480) 0)))) := by rw [hM4, zw_un _ _ (by omega)]; exact hhas
    have hmn : M4 (z + 4) = some (.inl (G.2.1 0, 8, .inl (fun a9 => nI ((st.lg a9).length)))) := by rw [hM4, zw_un _ _ (by omega)]; exact hmn
    have hrw : M4 (z + 5) = some (.inl (G.2.1 0, 120, .inl (fun a9 => nI (Y.rw a9)))) := by rw [hM4, zw_un _ _ (by omega)]; exact hrw
    have hnu : M4 (z + 6) = some (.inl (G.2.1 0, 120, .inl (upd Y.nu row (nI st.se)))) := by rw [hM4, zw_un _ _ (by omega)]; exact hnu
    have hto : M4 (z + 8) = some (.inl (G.2.1 0, 120, .inl Y.to)) := by rw [hM4, zw_un _ _ (by omega)]; exact hto
    have hsi : M4 (z + 9) = some (.inl (G.2.1 0, 120, .inl Y.si)) := by rw [hM4, zw_un _ _ (by omega)]; exact hsi
    have hcl : M4 (z + 10) = some (.inl (G.2.1 1, 120, .inr (.inl Y.cl))) := by rw [hM4, zw_un _ _ (by omega)]; exact hcl
    have hins : M4 (z + 11) = some (.inl (G.2.1 0, 57600, .inl Y.ins)) := by rw [hM4, zw_un _ _ (by omega)]; exact hins
    have hpart : M4 (z + 12) = some (.inl (G.2.1 0, 480, .inl Y.part)) := by rw [hM4, zw_un _ _ (by omega)]; exact hpart
    have hfr : M4 (z + 7) = some (.inl (G.2.1 0, 120, .inl (upd Y.fr row (nI sd)))) := by rw [hM4]; exact zw_us _ _ _
    refine lv_aload_n hx hb dR_send_78 rfl (lv_at hl 1 rfl) ?_
    refine va_get (D := G.1) (ci := 2) (v := .ref (z + 8)) (C := RR) (T := TR) (N := 22) hx hb hz iR hown hK (hH.one hx0) 0 rfl rfl 12 (by decide) (hz _ zm_400) (fun _ h9 => h9) rfl dR_send_79 ?_
    refine lv_iload hx hb dR_send_82 (lv_at hl 0 rfl) ?_
    refine lv_iload_n hx hb dR_send_84 rfl (lv_at hl 3 rfl) ?_
    refine zw_iast hx hb hK hH hS 0 hto rfl (row) rfl (hrb) (by decide) dR_send_85 (fun H5 L5 hH hz1 hS => ?_)
    have hsz : H5.size = sz := hz1.trans hsz
    obtain ⟨M5, hM5⟩ : ∃ Mq, Mq = zw_u M4 (z + 8) (.inl (G.2.1 0, 120, .inl (upd Y.to row (nI rv)))) := ⟨_, rfl⟩
    have hH : zw_H G.1 zCl B M5 H5 := by rw [hM5]; exact hH
    have hx0 : M5 x = some (.inr (2, zoR th n mb z (st.fl.length + 1) (st.se + 1) st.lo st.go st.pa pt)) := by rw [hM5, zw_un _ _ (by omega)]; exact hx0
    have hdn : M5 z = some (.inl (G.2.1 2, 8, .inl (fun a9 => nI (st.dn a9).toNat))) := by rw [hM5, zw_un _ _ (by omega)]; exact hdn
    have hmd : M5 (z + 1) = some (.inl (G.2.1 0, 8, .inl (fun a9 => nI ((st.wt a9).length)))) := by rw [hM5, zw_un _ _ (by omega)]; exact hmd
    have hwt : M5 (z + 2) = some (.inl (G.2.1 0, 488, .inl (fun a9 => nI ((st.wt (a9 / 61)).getD (a9 % 61) 0)))) := by rw [hM5, zw_un _ _ (by omega)]; exact hwt
    have hhas : M5 (z + 3) = some (.inl (G.2.1 0, 3840, .inl (fun a9 => nI ((st.lg (a9 / 480)).getD (a9 % 480) 0)))) := by rw [hM5, zw_un _ _ (by omega)]; exact hhas
    have hmn : M5 (z + 4) = some (.inl (G.2.1 0, 8, .inl (fun a9 => nI ((st.lg a9).length)))) := by rw [hM5, zw_un _ _ (by omega)]; exact hmn
    have hrw : M5 (z + 5) = some (.inl (G.2.1 0, 120, .inl (fun a9 => nI (Y.rw a9)))) := by rw [hM5, zw_un _ _ (by omega)]; exact hrw
    have hnu : M5 (z + 6) = some (.inl (G.2.1 0, 120, .inl (upd Y.nu row (nI st.se)))) := by rw [hM5, zw_un _ _ (by omega)]; exact hnu
    have hfr : M5 (z + 7) = some (.inl (G.2.1 0, 120, .inl (upd Y.fr row (nI sd)))) := by rw [hM5, zw_un _ _ (by omega)]; exact hfr
    have hsi : M5 (z + 9) = some (.inl (G.2.1 0, 120, .inl Y.si)) := by rw [hM5, zw_un _ _ (by omega)]; exact hsi
    have hcl : M5 (z + 10) = some (.inl (G.2.1 1, 120, .inr (.inl Y.cl))) := by rw [hM5, zw_un _ _ (by omega)]; exact hcl
    have hins : M5 (z + 11) = some (.inl (G.2.1 0, 57600, .inl Y.ins)) := by rw [hM5, zw_un _ _ (by omega)]; exact hins
    have hpart : M5 (z + 12) = some (.inl (G.2.1 0, 480, .inl Y.part)) := by rw [hM5, zw_un _ _ (by omega)]; exact hpart
    have hto : M5 (z + 8) = some (.inl (G.2.1 0, 120, .inl (upd Y.to row (nI rv)))) := by rw [hM5]; exact zw_us _ _ _
    refine lv_aload_n hx hb dR_send_86 rfl (lv_at hl 1 rfl) ?_
    refine va_get (D := G.1) (ci := 2) (v := .ref (z + 9)) (C := RR) (T := TR) (N := 22) hx hb hz iR hown hK (hH.one hx0) 0 rfl rfl 13 (by decide) (hz _ zm_401) (fun _ h9 => h9) rfl dR_send_87 ?_
    refine lv_iload hx hb dR_send_90 (lv_at hl 0 rfl) ?_
    refine lv_iload_n hx hb dR_send_92 rfl (lv_at hl 4 rfl) ?_
    refine zw_iast hx hb hK hH hS 0 hsi rfl (row) rfl (hrb) (by decide) dR_send_93 (fun H6 L6 hH hz1 hS => ?_)
    have hsz : H6.size = sz := hz1.trans hsz
    obtain ⟨M6, hM6⟩ : ∃ Mq, Mq = zw_u M5 (z + 9) (.inl (G.2.1 0, 120, .inl (upd Y.si row (nI chs.length)))) := ⟨_, rfl⟩
    have hH : zw_H G.1 zCl B M6 H6 := by rw [hM6]; exact hH
    have hx0 : M6 x = some (.inr (2, zoR th n mb z (st.fl.length + 1) (st.se + 1) st.lo st.go st.pa pt)) := by rw [hM6, zw_un _ _ (by omega)]; exact hx0
    have hdn : M6 z = some (.inl (G.2.1 2, 8, .inl (fun a9 => nI (st.dn a9).toNat))) := by rw [hM6, zw_un _ _ (by omega)]; exact hdn
    have hmd : M6 (z + 1) = some (.inl (G.2.1 0, 8, .inl (fun a9 => nI ((st.wt a9).length)))) := by rw [hM6, zw_un _ _ (by omega)]; exact hmd
    have hwt : M6 (z + 2) = some (.inl (G.2.1 0, 488, .inl (fun a9 => nI ((st.wt (a9 / 61)).getD (a9 % 61) 0)))) := by rw [hM6, zw_un _ _ (by omega)]; exact hwt
    have hhas : M6 (z + 3) = some (.inl (G.2.1 0, 3840, .inl (fun a9 => nI ((st.lg (a9 / 480)).getD (a9 % 480) 0)))) := by rw [hM6, zw_un _ _ (by omega)]; exact hhas
    have hmn : M6 (z + 4) = some (.inl (G.2.1 0, 8, .inl (fun a9 => nI ((st.lg a9).length)))) := by rw [hM6, zw_un _ _ (by omega)]; exact hmn
    have hrw : M6 (z + 5) = some (.inl (G.2.1 0, 120, .inl (fun a9 => nI (Y.rw a9)))) := by rw [hM6, zw_un _ _ (by omega)]; exact hrw
    have hnu : M6 (z + 6) = some (.inl (G.2.1 0, 120, .inl (upd Y.nu row (nI st.se)))) := by rw [hM6, zw_un _ _ (by omega)]; exact hnu
    have hfr : M6 (z + 7) = some (.inl (G.2.1 0, 120, .inl (upd Y.fr row (nI sd)))) := by rw [hM6, zw_un _ _ (by omega)]; exact hfr
    have hto : M6 (z + 8) = some (.inl (G.2.1 0, 120, .inl (upd Y.to row (nI rv)))) := by rw [hM6, zw_un _ _ (by omega)]; exact hto
    have hcl : M6 (z + 10) = some (.inl (G.2.1 1, 120, .inr (.inl Y.cl))) := by rw [hM6, zw_un _ _ (by omega)]; exact hcl
    have hins : M6 (z + 11) = some (.inl (G.2.1 0, 57600, .inl Y.ins)) := by rw [hM6, zw_un _ _ (by omega)]; exact hins
    have hpart : M6 (z + 12) = some (.inl (G.2.1 0, 480, .inl Y.part)) := by rw [hM6, zw_un _ _ (by omega)]; exact hpart
    have hsi : M6 (z + 9) = some (.inl (G.2.1 0, 120, .inl (upd Y.si row (nI chs.length)))) := by rw [hM6]; exact zw_us _ _ _
    refine lv_aload_n hx hb dR_send_94 rfl (lv_at hl 1 rfl) ?_
    refine va_get (D := G.1) (ci := 2) (v := .ref (z + 10)) (C := RR) (T := TR) (N := 22) hx hb hz iR hown hK (hH.one hx0) 0 rfl rfl 14 (by decide) (hz _ zm_402) (fun _ h9 => h9) rfl dR_send_95 ?_
    refine lv_iload hx hb dR_send_98 (lv_at hl 0 rfl) ?_
    refine lv_lload hx hb dR_send_100 (lv_at hl 5 rfl) ?_
    refine zw_last hx hb hK hH hS 1 hcl rfl (row) rfl (hrb) (by decide) dR_send_102 (fun H7 L7 hH hz1 hS => ?_)
    have hsz : H7.size = sz := hz1.trans hsz
    obtain ⟨M7, hM7⟩ : ∃ Mq, Mq = zw_u M6 (z + 10) (.inl (G.2.1 1, 120, .inr (.inl (vp_updL Y.cl row cv)))) := ⟨_, rfl⟩
    have hH : zw_H G.1 zCl B M7 H7 := by rw [hM7]; exact hH
    have hx0 : M7 x = some (.inr (2, zoR th n mb z (st.fl.length + 1) (st.se + 1) st.lo st.go st.pa pt)) := by rw [hM7, zw_un _ _ (by omega)]; exact hx0
    have hdn : M7 z = some (.inl (G.2.1 2, 8, .inl (fun a9 => nI (st.dn a9).toNat))) := by rw [hM7, zw_un _ _ (by omega)]; exact hdn
    have hmd : M7 (z + 1) = some (.inl (G.2.1 0, 8, .inl (fun a9 => nI ((st.wt a9).length)))) := by rw [hM7, zw_un _ _ (by omega)]; exact hmd
    have hwt : M7 (z + 2) = some (.inl (G.2.1 0, 488, .inl (fun a9 => nI ((st.wt (a9 / 61)).getD (a9 % 61) 0)))) := by rw [hM7, zw_un _ _ (by omega)]; exact hwt
    have hhas : M7 (z + 3) = some (.inl (G.2.1 0, 3840, .inl (fun a9 => nI ((st.lg (a9 / 480)).getD (a9 % 480) 0)))) := by rw [hM7, zw_un _ _ (by omega)]; exact hhas
    have hmn : M7 (z + 4) = some (.inl (G.2.1 0, 8, .inl (fun a9 => nI ((st.lg a9).length)))) := by rw [hM7, zw_un _ _ (by omega)]; exact hmn
    have hrw : M7 (z + 5) = some (.inl (G.2.1 0, 120, .inl (fun a9 => nI (Y.rw a9)))) := by rw [hM7, zw_un _ _ (by omega)]; exact hrw
    have hnu : M7 (z + 6) = some (.inl (G.2.1 0, 120, .inl (upd Y.nu row (nI st.se)))) := by rw [hM7, zw_un _ _ (by omega)]; exact hnu
    have hfr : M7 (z + 7) = some (.inl (G.2.1 0, 120, .inl (upd Y.fr row (nI sd)))) := by rw [hM7, zw_un _ _ (by omega)]; exact hfr
    have hto : M7 (z + 8) = some (.inl (G.2.1 0, 120, .inl (upd Y.to row (nI rv)))) := by rw [hM7, zw_un _ _ (by omega)]; exact hto
    have hsi : M7 (z + 9) = some (.inl (G.2.1 0, 120, .inl (upd Y.si row (nI chs.length)))) := by rw [hM7, zw_un _ _ (by omega)]; exact hsi
    have hins : M7 (z + 11) = some (.inl (G.2.1 0, 57600, .inl Y.ins)) := by rw [hM7, zw_un _ _ (by omega)]; exact hins
    have hpart : M7 (z + 12) = some (.inl (G.2.1 0, 480, .inl Y.part)) := by rw [hM7, zw_un _ _ (by omega)]; exact hpart
    have hcl : M7 (z + 10) = some (.inl (G.2.1 1, 120, .inr (.inl (vp_updL Y.cl row cv)))) := by rw [hM7]; exact zw_us _ _ _
    refine lv_iconst (v := nI 0) hx hb dR_send_103 (by decide) ?_
    refine lv_istore (lv' := [(7, .int (nI 0)), (6, .int (nI row)), (0, .ref x), (1, .int (nI sd)), (2, .int (nI rv)), (3, .int (nI chs.length)), (4, .long cv)]) hx hb dR_send_104 hl (by decide) rfl (fun ls hl => ?_)
    have hfz : zrf x z M M7 := fun q h1 h2 => by rw [hM7, zw_un _ _ (by omega), hM6, zw_un _ _ (by omega), hM5, zw_un _ _ (by omega), hM4, zw_un _ _ (by omega), hM3, zw_un _ _ (by omega), hM2, zw_un _ _ (by omega), hM1, zw_un _ _ (by omega)]
    have hsnd : zsend st sd rv bq ck chs = zSt.mk st.dn st.lg st.wt (st.fl ++ [zMg.mk st.se sd rv bq ck chs]) (st.se + 1) st.lo st.go st.pa := if_pos hlt
    have hms := zRX_send (sd := sd) (rv := rv) (bq := bq) hrow hlt hR.rwb hR.rwi (fun i mg h => ⟨hR.msg i mg h, hm8 mg (List.mem_of_getElem? h)⟩) hcv hpt hl4
    rw [hsnd]
    refine zl_upH (Wg := fun ls H locs => W p l e _ s m _ below meth c H locs 0 0 _ (F0 m 106 ls [])) (fun i ls H locs => lv_has ls 8 [(0, .ref x), (1, .int (nI sd)), (2, .int (nI rv)), (3, .int (nI chs.length)), (4, .long cv), (6, .int (nI row)), (7, .int (nI i))] ∧ ∃ Mq : zw_M, zw_H G.1 zCl B Mq H ∧ va_S (zw_A B) s.heap H locs ∧ Mq = zw_u M7 (z + 11) (.inl (G.2.1 0, 57600, .inl (zcp Y.ins Y.part (480 * row) i))) ∧ H.size = sz) chs.length ?_ (i := 0) (by omega) ⟨lv_sub hl [2, 3, 4, 5, 6, 1, 0] rfl, M7, hH, hS, ⟨by rw [zcp_0, zw_ui hins], hsz⟩⟩
    intro i hi ls Hi Li ⟨hl, Mi, hH, hS, hI⟩ ih
    have hl : lv_has ls 8 [(0, .ref x), (1, .int (nI sd)), (2, .int (nI rv)), (3, .int (nI chs.length)), (4, .long cv), (6, .int (nI row)), (7, .int (nI i))] := hl
    obtain ⟨hMi, hsz⟩ := hI
    have hx0 : Mi x = some (.inr (2, zoR th n mb z (st.fl.length + 1) (st.se + 1) st.lo st.go st.pa pt)) := by rw [hMi, zw_un _ _ (by omega)]; exact hx0
    have hdn : Mi z = some (.inl (G.2.1 2, 8, .inl (fun a9 => nI (st.dn a9).toNat))) := by rw [hMi, zw_un _ _ (by omega)]; exact hdn
    have hmd : Mi (z + 1) = some (.inl (G.2.1 0, 8, .inl (fun a9 => nI ((st.wt a9).length)))) := by rw [hMi, zw_un _ _ (by omega)]; exact hmd
    have hwt : Mi (z + 2) = some (.inl (G.2.1 0, 488, .inl (fun a9 => nI ((st.wt (a9 / 61)).getD (a9 % 61) 0)))) := by rw [hMi, zw_un _ _ (by omega)]; exact hwt
    have hhas : Mi (z + 3) = some (.inl (G.2.1 0, 3840, .inl (fun a9 => nI ((st.lg (a9 / 480)).getD (a9 % 480) 0)))) := by rw [hMi, zw_un _ _ (by omega)]; exact hhas
    have hmn : Mi (z + 4) = some (.inl (G.2.1 0, 8, .inl (fun a9 => nI ((st.lg a9).length)))) := by rw [hMi, zw_un _ _ (by omega)]; exact hmn
    have hrw : Mi (z + 5) = some (.inl (G.2.1 0, 120, .inl (fun a9 => nI (Y.rw a9)))) := by rw [hMi, zw_un _ _ (by omega)]; exact hrw
    have hnu : Mi (z + 6) = some (.inl (G.2.1 0, 120, .inl (upd Y.nu row (nI st.se)))) := by rw [hMi, zw_un _ _ (by omega)]; exact hnu
    have hfr : Mi (z + 7) = some (.inl (G.2.1 0, 120, .inl (upd Y.fr row (nI sd)))) := by rw [hMi, zw_un _ _ (by omega)]; exact hfr
    have hto : Mi (z + 8) = some (.inl (G.2.1 0, 120, .inl (upd Y.to row (nI rv)))) := by rw [hMi, zw_un _ _ (by omega)]; exact hto
    have hsi : Mi (z + 9) = some (.inl (G.2.1 0, 120, .inl (upd Y.si row (nI chs.length)))) := by rw [hMi, zw_un _ _ (by omega)]; exact hsi
    have hcl : Mi (z + 10) = some (.inl (G.2.1 1, 120, .inr (.inl (vp_updL Y.cl row cv)))) := by rw [hMi, zw_un _ _ (by omega)]; exact hcl
    have hpart : Mi (z + 12) = some (.inl (G.2.1 0, 480, .inl Y.part)) := by rw [hMi, zw_un _ _ (by omega)]; exact hpart
    have hins : Mi (z + 11) = some (.inl (G.2.1 0, 57600, .inl (zcp Y.ins Y.part (480 * row) i))) := by rw [hMi]; exact zw_us _ _ _
    refine lv_iload hx hb dR_send_106 (lv_at hl 6 rfl) ?_
    refine lv_iload_n hx hb dR_send_108 rfl (lv_at hl 3 rfl) ?_
    refine zc_ge (tgt := 139) hx hb dR_send_109 (by decide) (by omega) (by omega) (fun b2 => ?_) (fun b2 => ?_)
    · have e1 : chs.length = i := by omega
      rw [← e1] at hins
      have hfi : zrf x z M Mi := fun q h1 h2 => by rw [hMi, zw_un _ _ (by omega)]; exact hfz q h1 h2
      rw [← hsz1] at hsi
      refine lv_aload_n hx hb dR_send_139 rfl (lv_at hl 0 rfl) ?_
      refine va_get (D := G.1) (ci := 2) (v := .int (nI (st.se + 1))) (C := RR) (T := TR) (N := 22) hx hb hz iR hown hK (hH.one hx0) 0 rfl rfl 16 (by decide) (hz _ zm_404) (fun _ h9 => h9) rfl dR_send_140 ?_
      refine lv_iconst (v := nI 1) hx hb dR_send_143 (by decide) ?_
      refine lv_isub hx hb dR_send_144 ?_
      refine zw_ti (pk_sub (by omega)) ?_
      have hxe : Mi x = some (.inr (2, zoR th n mb z (st.fl ++ [zMg.mk st.se sd rv bq ck chs]).length (st.se + 1) st.lo st.go st.pa pt)) := by rw [List.length_append]; exact hx0
      have hx0 := hxe
      exact W.iret (v := (nI st.se)) hx hb hr (fun t ht hW => ⟨⟨(nI st.se), (Mi, sz), rfl, ⟨rfl, ⟨(zRX.mk Y.rw (upd Y.nu row (nI st.se)) (upd Y.fr row (nI sd)) (upd Y.to row (nI rv)) (upd Y.si row (zsz ck chs)) (vp_updL Y.cl row cv) (zcp Y.ins Y.part (480 * row) chs.length) Y.part), ⟨hxz, hx0, hdn, hmd, hwt, hhas, hmn, hrw, hnu, hfr, hto, hsi, hcl, hins, hpart, hR.rwb, hR.rwi, hms⟩⟩, hfi, rfl⟩, by rw [ht]; exact hH, by rw [ht]; exact hsz⟩, hS.F ht⟩) hS.2.2 dR_send_145
    · refine lv_aload_n hx hb dR_send_112 rfl (lv_at hl 0 rfl) ?_
      refine va_get (D := G.1) (ci := 2) (v := .ref (z + 11)) (C := RR) (T := TR) (N := 22) hx hb hz iR hown hK (hH.one hx0) 0 rfl rfl 15 (by decide) (hz _ zm_403) (fun _ h9 => h9) rfl dR_send_113 ?_
      refine lv_sipush (v := nI 480) hx hb dR_send_116 (by decide) ?_
      refine lv_iload hx hb dR_send_119 (lv_at hl 5 rfl) ?_
      refine lv_imul hx hb dR_send_121 ?_
      refine zw_ti (pk_mul _ _) ?_
      refine lv_iload hx hb dR_send_122 (lv_at hl 6 rfl) ?_
      refine lv_iadd hx hb dR_send_124 ?_
      refine zw_ti (nI_add _ _) ?_
      refine lv_aload_n hx hb dR_send_125 rfl (lv_at hl 0 rfl) ?_
      refine va_get (D := G.1) (ci := 2) (v := .ref (z + 12)) (C := RR) (T := TR) (N := 22) hx hb hz iR hown hK (hH.one hx0) 0 rfl rfl 20 (by decide) (hz _ zm_408) (fun _ h9 => h9) rfl dR_send_126 ?_
      refine lv_iload hx hb dR_send_129 (lv_at hl 6 rfl) ?_
      refine zw_iald hx hb hK hH 0 hpart rfl (i) rfl (by omega) (by decide) dR_send_131 ?_
      refine zw_iast hx hb hK hH hS 0 hins rfl (480 * row + i) rfl (by omega) (by decide) dR_send_132 (fun H8 L8 hH hz1 hS => ?_)
      have hsz : H8.size = sz := hz1.trans hsz
      obtain ⟨M8, hM8⟩ : ∃ Mq, Mq = zw_u Mi (z + 11) (.inl (G.2.1 0, 57600, .inl (upd (zcp Y.ins Y.part (480 * row) i) (480 * row + i) (Y.part i)))) := ⟨_, rfl⟩
      have hH : zw_H G.1 zCl B M8 H8 := by rw [hM8]; exact hH
      have hx0 : M8 x = some (.inr (2, zoR th n mb z (st.fl.length + 1) (st.se + 1) st.lo st.go st.pa pt)) := by rw [hM8, zw_un _ _ (by omega)]; exact hx0
      have hdn : M8 z = some (.inl (G.2.1 2, 8, .inl (fun a9 => nI (st.dn a9).toNat))) := by rw [hM8, zw_un _ _ (by omega)]; exact hdn
      have hmd : M8 (z + 1) = some (.inl (G.2.1 0, 8, .inl (fun a9 => nI ((st.wt a9).length)))) := by rw [hM8, zw_un _ _ (by omega)]; exact hmd
      have hwt : M8 (z + 2) = some (.inl (G.2.1 0, 488, .inl (fun a9 => nI ((st.wt (a9 / 61)).getD (a9 % 61) 0)))) := by rw [hM8, zw_un _ _ (by omega)]; exact hwt
      have hhas : M8 (z + 3) = some (.inl (G.2.1 0, 3840, .inl (fun a9 => nI ((st.lg (a9 / 480)).getD (a9 % 480) 0)))) := by rw [hM8, zw_un _ _ (by omega)]; exact hhas
      have hmn : M8 (z + 4) = some (.inl (G.2.1 0, 8, .inl (fun a9 => nI ((st.lg a9).length)))) := by rw [hM8, zw_un _ _ (by omega)]; exact hmn
      have hrw : M8 (z + 5) = some (.inl (G.2.1 0, 120, .inl (fun a9 => nI (Y.rw a9)))) := by rw [hM8, zw_un _ _ (by omega)]; exact hrw
      have hnu : M8 (z + 6) = some (.inl (G.2.1 0, 120, .inl (upd Y.nu row (nI st.se)))) := by rw [hM8, zw_un _ _ (by omega)]; exact hnu
      have hfr : M8 (z + 7) = some (.inl (G.2.1 0, 120, .inl (upd Y.fr row (nI sd)))) := by rw [hM8, zw_un _ _ (by omega)]; exact hfr
      have hto : M8 (z + 8) = some (.inl (G.2.1 0, 120, .inl (upd Y.to row (nI rv)))) := by rw [hM8, zw_un _ _ (by omega)]; exact hto
      have hsi : M8 (z + 9) = some (.inl (G.2.1 0, 120, .inl (upd Y.si row (nI chs.length)))) := by rw [hM8, zw_un _ _ (by omega)]; exact hsi
      have hcl : M8 (z + 10) = some (.inl (G.2.1 1, 120, .inr (.inl (vp_updL Y.cl row cv)))) := by rw [hM8, zw_un _ _ (by omega)]; exact hcl
      have hpart : M8 (z + 12) = some (.inl (G.2.1 0, 480, .inl Y.part)) := by rw [hM8, zw_un _ _ (by omega)]; exact hpart
      have hins : M8 (z + 11) = some (.inl (G.2.1 0, 57600, .inl (upd (zcp Y.ins Y.part (480 * row) i) (480 * row + i) (Y.part i)))) := by rw [hM8]; exact zw_us _ _ _
      refine lv_iinc (v := (nI (i + 1))) (lv' := [(7, .int (nI (i + 1))), (0, .ref x), (1, .int (nI sd)), (2, .int (nI rv)), (3, .int (nI chs.length)), (4, .long cv), (6, .int (nI row))]) hx hb dR_send_133 hl (k := 6) rfl (nI_add _ _) (by decide) rfl (fun ls hl => ?_)
      refine lv_goto (tgt := 106) hx hb dR_send_136 (by decide) ?_
      exact ih b2 ls H8 _ ⟨lv_sub hl [1, 2, 3, 4, 5, 6, 0] rfl, M8, hH, hS, ⟨by rw [hM8, hMi, zw_uu, zcp_s], hsz⟩⟩
  · exact absurd b1 (by omega)

theorem kR_send (l : Launch) (G : zG) (B : Nat) (M : zw_M) (sz : Nat) (x z n mb : Nat) (st : zSt) (th pt : Nat) (Y : zRX) (hn : n ≤ 8) (hR : zRR G M x z n mb st th pt Y) (sd rv bq : Nat) (ck : Option Int64) (chs : List Nat) (cv : Int64) (hm8 : ∀ mg ∈ st.fl, mg.chs.length ≤ 480) (hcv : ∀ k, ck = some k → cv = k) (hpt : ∀ k, k < chs.length → Y.part k = nI (chs.getD k 0)) (hl4 : chs.length ≤ 480) (h120 : st.fl.length ≤ 120) (hcp : ck = none ∨ chs = []) : Met l yR_send (Cond.code yR_send bR_send 8 (some .int) :: zT) { frames := 0, cells := 0, slots := 0, locals := 0 } (zq G B M sz [.ref x, .int (nI sd), .int (nI rv), .int (zsz ck chs), .long cv]) (va_Qi (fun (r : Int32) (u : zw_M × Nat) => r = nI st.se ∧ (∃ Y2 : zRX, zRR G u.1 x z n mb (zsend st sd rv bq ck chs) th pt Y2) ∧ zrf x z M u.1 ∧ u.2 = sz) (zr_o G.1 zCl B) (zw_A B)) (0) (0) (zw_A B) := by
  by_cases h : st.fl.length < 120
  · cases hk : ck with
    | none => exact hk ▸ kR_send_part l G B M sz x z n mb st th pt Y hn hR sd rv bq ck chs cv hm8 hcv hpt hl4 hk h
    | some k => exact hk ▸ kR_send_clock l G B M sz x z n mb st th pt Y hn hR sd rv bq ck chs cv hm8 hcv hpt hl4 k hk (hcp.resolve_left (by rw [hk]; exact fun e => by cases e)) h
  · exact kR_send_full l G B M sz x z n mb st th pt Y hn hR sd rv bq ck chs cv hm8 hcv hpt hl4 (by omega)
theorem zRX_rem {Y : zRX} {st : zSt} {j : Nat} (hj : j < st.fl.length) (hm : ∀ (i : Nat) (mg : zMg), st.fl[i]? = some mg → zRm Y i mg) : ∀ (i : Nat) (mg : zMg), (zdrop st j).fl[i]? = some mg → zRm (zRX.mk (zre Y.rw j (st.fl.length - 1)) Y.nu Y.fr Y.to Y.si Y.cl Y.ins Y.part) i mg := by
  intro i mg h
  change (st.fl.eraseIdx j)[i]? = some mg at h
  have hlt : i < st.fl.length - 1 := by
    have := (List.getElem?_eq_some_iff.mp h).1
    rw [List.length_eraseIdx, if_pos hj] at this
    exact this
  rw [List.getElem?_eraseIdx] at h
  have key : ∀ q, st.fl[q]? = some mg → zre Y.rw j (st.fl.length - 1) i = Y.rw q → zRm (zRX.mk (zre Y.rw j (st.fl.length - 1)) Y.nu Y.fr Y.to Y.si Y.cl Y.ins Y.part) i mg := by
    intro q hq e
    have hmq := hm q mg hq
    unfold zRm at hmq ⊢
    rw [← e] at hmq
    exact hmq
  by_cases h1 : i < j
  · rw [if_pos h1] at h
    exact key i h (by unfold zre zrk; rw [if_neg (by omega), if_pos h1])
  · rw [if_neg h1] at h
    exact key (i + 1) h (by unfold zre zrk; rw [if_neg (by omega), if_neg h1, if_pos hlt])
set_option maxHeartbeats 4000000 in
set_option maxRecDepth 100000 in
theorem kR_remove (l : Launch) (G : zG) (B : Nat) (M : zw_M) (sz : Nat) (x z n mb : Nat) (st : zSt) (th pt : Nat) (Y : zRX) (hn : n ≤ 8) (hR : zRR G M x z n mb st th pt Y) (h120 : st.fl.length ≤ 120) (j : Nat) (hj : j < st.fl.length) : Met l yR_remove (Cond.code yR_remove bR_remove 4 none :: zT) { frames := 0, cells := 0, slots := 0, locals := 0 } (zq G B M sz [.ref x, .int (nI j)]) (va_Qv (fun (u : zw_M × Nat) => zRR G u.1 x z n mb (zdrop st j) th pt (zRX.mk (zre Y.rw j (st.fl.length - 1)) Y.nu Y.fr Y.to Y.si Y.cl Y.ins Y.part) ∧ zrf x z M u.1 ∧ u.2 = sz) (zr_o G.1 zCl B) (zw_A B)) (0) (0) (zw_A B) := by
  refine Met.ofW (cc := bR_remove) (maxL := 4) (ret := none) (by decide) rfl ?_
  intro p e s m args below meth c s₁ B0 hml hv
  obtain ⟨rfl, hE, hH, hsz⟩ := hv
  have hx := B0.exec
  have hb := B0.bytes
  have hr := B0.returns
  have hlocks := B0.notSynchronized
  have hz : ∀ w ∈ zT, w.before _ s = true := fun w h => atoms_spec (ws := Cond.code yR_remove bR_remove 4 none :: zT) B0.pre w (List.mem_cons_of_mem _ h)
  have hown : s.vm.findClass RR = some m.cls := findClass_of_methodNamed B0.named
  have hK := hE.1
  have hl := lv_entry ([.ref x, .int (nI j)]) (n := 4) (Nat.le_of_ble_eq_true rfl)
  rw [lg_entry_eq]
  generalize (lg_sl ([.ref x, .int (nI j)]) ++ List.replicate (4 - (lg_sl ([.ref x, .int (nI j)])).length) Slot.unset).toArray = ls at hl ⊢
  have hl : lv_has ls 4 [(0, .ref x), (1, .int (nI j))] := hl
  have hS : va_S (zw_A B) s.heap s.heap [] := va_S.rf
  have hin : meth.name = "remove" := (name_of_methodNamed B0.named B0.method).1
  have hrb := hR.rwb _ (show j < 120 by omega)
  have hx0 := hR.obj
  have hdn := hR.dn
  have hmd := hR.md
  have hwt := hR.wt
  have hhas := hR.has
  have hmn := hR.mn
  have hrw := hR.rw
  have hnu := hR.nu
  have hfr := hR.fr
  have hto := hR.to
  have hsi := hR.si
  have hcl := hR.cl
  have hins := hR.ins
  have hpart := hR.part
  have hxz := hR.xz
  refine lv_aload_n hx hb dR_remove_0 rfl (lv_at hl 0 rfl) ?_
  refine va_get (D := G.1) (ci := 2) (v := .ref (z + 5)) (C := RR) (T := TR) (N := 22) hx hb hz iR hown hK (hH.one hx0) 0 rfl rfl 8 (by decide) (hz _ zm_396) (fun _ h9 => h9) rfl dR_remove_1 ?_
  refine lv_iload_n hx hb dR_remove_4 rfl (lv_at hl 1 rfl) ?_
  refine zw_iald hx hb hK hH 0 hrw rfl (j) rfl (by omega) (by decide) dR_remove_5 ?_
  refine lv_istore_n (lv' := [(2, .int (nI (Y.rw j))), (0, .ref x), (1, .int (nI j))]) hx hb dR_remove_6 rfl hl (by decide) rfl (fun ls hl => ?_)
  refine lv_iload_n hx hb dR_remove_7 rfl (lv_at hl 2 rfl) ?_
  refine lv_istore_n (lv' := [(3, .int (nI j)), (2, .int (nI (Y.rw j))), (0, .ref x), (1, .int (nI j))]) hx hb dR_remove_8 rfl hl (by decide) rfl (fun ls hl => ?_)
  refine zl_upH (Wg := fun ls H locs => W p l e _ s m _ below meth c H locs 0 0 _ (F0 m 9 ls [])) (fun i ls H locs => lv_has ls 4 [(0, .ref x), (1, .int (nI j)), (2, .int (nI (Y.rw j))), (3, .int (nI i))] ∧ ∃ Mq : zw_M, zw_H G.1 zCl B Mq H ∧ va_S (zw_A B) s.heap H locs ∧ j ≤ i ∧ Mq = zw_u M (z + 5) (.inl (G.2.1 0, 120, .inl (fun a9 => nI (zrk Y.rw j i a9)))) ∧ H.size = sz) (st.fl.length - 1) ?_ (i := j) (by omega) ⟨lv_sub hl [2, 3, 1, 0] rfl, M, hH, hS, ⟨Nat.le_refl _, by rw [zrk_0, zw_ui hrw], hsz⟩⟩
  intro i hi ls Hi Li ⟨hl, Mi, hH, hS, hI⟩ ih
  have hl : lv_has ls 4 [(0, .ref x), (1, .int (nI j)), (2, .int (nI (Y.rw j))), (3, .int (nI i))] := hl
  obtain ⟨hji, hMi, hsz⟩ := hI
  have hx0 : Mi x = some (.inr (2, zoR th n mb z st.fl.length st.se st.lo st.go st.pa pt)) := by rw [hMi, zw_un _ _ (by omega)]; exact hx0
  have hdn : Mi z = some (.inl (G.2.1 2, 8, .inl (fun a9 => nI (st.dn a9).toNat))) := by rw [hMi, zw_un _ _ (by omega)]; exact hdn
  have hmd : Mi (z + 1) = some (.inl (G.2.1 0, 8, .inl (fun a9 => nI ((st.wt a9).length)))) := by rw [hMi, zw_un _ _ (by omega)]; exact hmd
  have hwt : Mi (z + 2) = some (.inl (G.2.1 0, 488, .inl (fun a9 => nI ((st.wt (a9 / 61)).getD (a9 % 61) 0)))) := by rw [hMi, zw_un _ _ (by omega)]; exact hwt
  have hhas : Mi (z + 3) = some (.inl (G.2.1 0, 3840, .inl (fun a9 => nI ((st.lg (a9 / 480)).getD (a9 % 480) 0)))) := by rw [hMi, zw_un _ _ (by omega)]; exact hhas
  have hmn : Mi (z + 4) = some (.inl (G.2.1 0, 8, .inl (fun a9 => nI ((st.lg a9).length)))) := by rw [hMi, zw_un _ _ (by omega)]; exact hmn
  have hnu : Mi (z + 6) = some (.inl (G.2.1 0, 120, .inl Y.nu)) := by rw [hMi, zw_un _ _ (by omega)]; exact hnu
  have hfr : Mi (z + 7) = some (.inl (G.2.1 0, 120, .inl Y.fr)) := by rw [hMi, zw_un _ _ (by omega)]; exact hfr
  have hto : Mi (z + 8) = some (.inl (G.2.1 0, 120, .inl Y.to)) := by rw [hMi, zw_un _ _ (by omega)]; exact hto
  have hsi : Mi (z + 9) = some (.inl (G.2.1 0, 120, .inl Y.si)) := by rw [hMi, zw_un _ _ (by omega)]; exact hsi
  have hcl : Mi (z + 10) = some (.inl (G.2.1 1, 120, .inr (.inl Y.cl))) := by rw [hMi, zw_un _ _ (by omega)]; exact hcl
  have hins : Mi (z + 11) = some (.inl (G.2.1 0, 57600, .inl Y.ins)) := by rw [hMi, zw_un _ _ (by omega)]; exact hins
  have hpart : Mi (z + 12) = some (.inl (G.2.1 0, 480, .inl Y.part)) := by rw [hMi, zw_un _ _ (by omega)]; exact hpart
  have hrw : Mi (z + 5) = some (.inl (G.2.1 0, 120, .inl (fun a9 => nI (zrk Y.rw j i a9)))) := by rw [hMi]; exact zw_us _ _ _
  refine lv_iload_n hx hb dR_remove_9 rfl (lv_at hl 3 rfl) ?_
  refine lv_aload_n hx hb dR_remove_10 rfl (lv_at hl 0 rfl) ?_
  refine va_get (D := G.1) (ci := 2) (v := .int (nI st.fl.length)) (C := RR) (T := TR) (N := 22) hx hb hz iR hown hK (hH.one hx0) 0 rfl rfl 9 (by decide) (hz _ zm_397) (fun _ h9 => h9) rfl dR_remove_11 ?_
  refine lv_iconst (v := nI 1) hx hb dR_remove_14 (by decide) ?_
  refine lv_isub hx hb dR_remove_15 ?_
  refine zw_ti (pk_sub (by omega)) ?_
  refine zc_ge (tgt := 39) hx hb dR_remove_16 (by decide) (by omega) (by omega) (fun b1 => ?_) (fun b1 => ?_)
  · have e1 : i = st.fl.length - 1 := by omega
    have hM00 : Mi = zw_u M (z + 5) _ := hMi
    refine lv_aload_n hx hb dR_remove_39 rfl (lv_at hl 0 rfl) ?_
    refine lv_dup hx hb dR_remove_40 rfl ?_
    refine va_get (D := G.1) (ci := 2) (v := .int (nI st.fl.length)) (C := RR) (T := TR) (N := 22) hx hb hz iR hown hK (hH.one hx0) 0 rfl rfl 9 (by decide) (hz _ zm_397) (fun _ h9 => h9) rfl dR_remove_41 ?_
    refine lv_iconst (v := nI 1) hx hb dR_remove_44 (by decide) ?_
    refine lv_isub hx hb dR_remove_45 ?_
    refine zw_ti (pk_sub (by omega)) ?_
    refine zw_put (D := G.1) (ci := 2) (v := .int (nI (st.fl.length - 1))) (ty := .int) (C := RR) (T := TR) (N := 22) hx hb hz iR tR tR_ok nR hown hK hH hS hx0 rfl 9 (by decide) (hz _ zm_397) (fun _ h9 => h9) rfl (by decide +kernel) rfl rfl (Nat.le_of_ble_eq_true rfl) dR_remove_46 (fun H1 L1 hH hz1 hS => ?_)
    have hsz : H1.size = sz := hz1.trans hsz
    obtain ⟨M1, hM1⟩ : ∃ Mq, Mq = zw_u Mi x (.inr (2, zoR th n mb z (st.fl.length - 1) st.se st.lo st.go st.pa pt)) := ⟨_, rfl⟩
    have hH : zw_H G.1 zCl B M1 H1 := by rw [hM1]; exact hH
    have hdn : M1 z = some (.inl (G.2.1 2, 8, .inl (fun a9 => nI (st.dn a9).toNat))) := by rw [hM1, zw_un _ _ (by omega)]; exact hdn
    have hmd : M1 (z + 1) = some (.inl (G.2.1 0, 8, .inl (fun a9 => nI ((st.wt a9).length)))) := by rw [hM1, zw_un _ _ (by omega)]; exact hmd
    have hwt : M1 (z + 2) = some (.inl (G.2.1 0, 488, .inl (fun a9 => nI ((st.wt (a9 / 61)).getD (a9 % 61) 0)))) := by rw [hM1, zw_un _ _ (by omega)]; exact hwt
    have hhas : M1 (z + 3) = some (.inl (G.2.1 0, 3840, .inl (fun a9 => nI ((st.lg (a9 / 480)).getD (a9 % 480) 0)))) := by rw [hM1, zw_un _ _ (by omega)]; exact hhas
    have hmn : M1 (z + 4) = some (.inl (G.2.1 0, 8, .inl (fun a9 => nI ((st.lg a9).length)))) := by rw [hM1, zw_un _ _ (by omega)]; exact hmn
    have hnu : M1 (z + 6) = some (.inl (G.2.1 0, 120, .inl Y.nu)) := by rw [hM1, zw_un _ _ (by omega)]; exact hnu
    have hfr : M1 (z + 7) = some (.inl (G.2.1 0, 120, .inl Y.fr)) := by rw [hM1, zw_un _ _ (by omega)]; exact hfr
    have hto : M1 (z + 8) = some (.inl (G.2.1 0, 120, .inl Y.to)) := by rw [hM1, zw_un _ _ (by omega)]; exact hto
    have hsi : M1 (z + 9) = some (.inl (G.2.1 0, 120, .inl Y.si)) := by rw [hM1, zw_un _ _ (by omega)]; exact hsi
    have hcl : M1 (z + 10) = some (.inl (G.2.1 1, 120, .inr (.inl Y.cl))) := by rw [hM1, zw_un _ _ (by omega)]; exact hcl
    have hins : M1 (z + 11) = some (.inl (G.2.1 0, 57600, .inl Y.ins)) := by rw [hM1, zw_un _ _ (by omega)]; exact hins
    have hpart : M1 (z + 12) = some (.inl (G.2.1 0, 480, .inl Y.part)) := by rw [hM1, zw_un _ _ (by omega)]; exact hpart
    have hrw : M1 (z + 5) = some (.inl (G.2.1 0, 120, .inl (fun a9 => nI (zrk Y.rw j i a9)))) := by rw [hM1, zw_un _ _ (by omega)]; exact hrw
    have hx0 : M1 x = some (.inr (2, zoR th n mb z (st.fl.length - 1) st.se st.lo st.go st.pa pt)) := by rw [hM1]; exact zw_us _ _ _
    refine lv_aload_n hx hb dR_remove_49 rfl (lv_at hl 0 rfl) ?_
    refine va_get (D := G.1) (ci := 2) (v := .ref (z + 5)) (C := RR) (T := TR) (N := 22) hx hb hz iR hown hK (hH.one hx0) 0 rfl rfl 8 (by decide) (hz _ zm_396) (fun _ h9 => h9) rfl dR_remove_50 ?_
    refine lv_aload_n hx hb dR_remove_53 rfl (lv_at hl 0 rfl) ?_
    refine va_get (D := G.1) (ci := 2) (v := .int (nI (st.fl.length - 1))) (C := RR) (T := TR) (N := 22) hx hb hz iR hown hK (hH.one hx0) 0 rfl rfl 9 (by decide) (hz _ zm_397) (fun _ h9 => h9) rfl dR_remove_54 ?_
    refine lv_iload_n hx hb dR_remove_57 rfl (lv_at hl 2 rfl) ?_
    refine zw_iast hx hb hK hH hS 0 hrw rfl (st.fl.length - 1) rfl (by omega) (by decide) dR_remove_58 (fun H2 L2 hH hz1 hS => ?_)
    have hsz : H2.size = sz := hz1.trans hsz
    obtain ⟨M2, hM2⟩ : ∃ Mq, Mq = zw_u M1 (z + 5) (.inl (G.2.1 0, 120, .inl (upd (fun a9 => nI (zrk Y.rw j i a9)) (st.fl.length - 1) (nI (Y.rw j))))) := ⟨_, rfl⟩
    have hH : zw_H G.1 zCl B M2 H2 := by rw [hM2]; exact hH
    have hx0 : M2 x = some (.inr (2, zoR th n mb z (st.fl.length - 1) st.se st.lo st.go st.pa pt)) := by rw [hM2, zw_un _ _ (by omega)]; exact hx0
    have hdn : M2 z = some (.inl (G.2.1 2, 8, .inl (fun a9 => nI (st.dn a9).toNat))) := by rw [hM2, zw_un _ _ (by omega)]; exact hdn
    have hmd : M2 (z + 1) = some (.inl (G.2.1 0, 8, .inl (fun a9 => nI ((st.wt a9).length)))) := by rw [hM2, zw_un _ _ (by omega)]; exact hmd
    have hwt : M2 (z + 2) = some (.inl (G.2.1 0, 488, .inl (fun a9 => nI ((st.wt (a9 / 61)).getD (a9 % 61) 0)))) := by rw [hM2, zw_un _ _ (by omega)]; exact hwt
    have hhas : M2 (z + 3) = some (.inl (G.2.1 0, 3840, .inl (fun a9 => nI ((st.lg (a9 / 480)).getD (a9 % 480) 0)))) := by rw [hM2, zw_un _ _ (by omega)]; exact hhas
    have hmn : M2 (z + 4) = some (.inl (G.2.1 0, 8, .inl (fun a9 => nI ((st.lg a9).length)))) := by rw [hM2, zw_un _ _ (by omega)]; exact hmn
    have hnu : M2 (z + 6) = some (.inl (G.2.1 0, 120, .inl Y.nu)) := by rw [hM2, zw_un _ _ (by omega)]; exact hnu
    have hfr : M2 (z + 7) = some (.inl (G.2.1 0, 120, .inl Y.fr)) := by rw [hM2, zw_un _ _ (by omega)]; exact hfr
    have hto : M2 (z + 8) = some (.inl (G.2.1 0, 120, .inl Y.to)) := by rw [hM2, zw_un _ _ (by omega)]; exact hto
    have hsi : M2 (z + 9) = some (.inl (G.2.1 0, 120, .inl Y.si)) := by rw [hM2, zw_un _ _ (by omega)]; exact hsi
    have hcl : M2 (z + 10) = some (.inl (G.2.1 1, 120, .inr (.inl Y.cl))) := by rw [hM2, zw_un _ _ (by omega)]; exact hcl
    have hins : M2 (z + 11) = some (.inl (G.2.1 0, 57600, .inl Y.ins)) := by rw [hM2, zw_un _ _ (by omega)]; exact hins
    have hpart : M2 (z + 12) = some (.inl (G.2.1 0, 480, .inl Y.part)) := by rw [hM2, zw_un _ _ (by omega)]; exact hpart
    have hrw : M2 (z + 5) = some (.inl (G.2.1 0, 120, .inl (upd (fun a9 => nI (zrk Y.rw j i a9)) (st.fl.length - 1) (nI (Y.rw j))))) := by rw [hM2]; exact zw_us _ _ _
    rw [e1, zre_s] at hrw
    have hfz : zrf x z M M2 := fun q h1 h2 => by rw [hM2, zw_un _ _ (by omega), hM1, zw_un _ _ (by omega), hMi, zw_un _ _ (by omega)]
    have hl2 : (zdrop st j).fl.length = st.fl.length - 1 := by show (st.fl.eraseIdx j).length = _; rw [List.length_eraseIdx, if_pos hj]
    have hxe : M2 x = some (.inr (2, zoR th n mb z (zdrop st j).fl.length st.se st.lo st.go st.pa pt)) := by rw [hl2]; exact hx0
    have hx0 := hxe
    exact W.vret hx hb hr (fun t ht hW => ⟨⟨(M2, sz), rfl, ⟨⟨hxz, hx0, hdn, hmd, hwt, hhas, hmn, hrw, hnu, hfr, hto, hsi, hcl, hins, hpart, zre_b hR.rwb (by omega) (by omega), zre_i hR.rwi (by omega) (by omega), zRX_rem hj hR.msg⟩, hfz, rfl⟩, by rw [ht]; exact hH, by rw [ht]; exact hsz⟩, hS.F ht⟩) hS.2.2 dR_remove_59
  · refine lv_aload_n hx hb dR_remove_19 rfl (lv_at hl 0 rfl) ?_
    refine va_get (D := G.1) (ci := 2) (v := .ref (z + 5)) (C := RR) (T := TR) (N := 22) hx hb hz iR hown hK (hH.one hx0) 0 rfl rfl 8 (by decide) (hz _ zm_396) (fun _ h9 => h9) rfl dR_remove_20 ?_
    refine lv_iload_n hx hb dR_remove_23 rfl (lv_at hl 3 rfl) ?_
    refine lv_aload_n hx hb dR_remove_24 rfl (lv_at hl 0 rfl) ?_
    refine va_get (D := G.1) (ci := 2) (v := .ref (z + 5)) (C := RR) (T := TR) (N := 22) hx hb hz iR hown hK (hH.one hx0) 0 rfl rfl 8 (by decide) (hz _ zm_396) (fun _ h9 => h9) rfl dR_remove_25 ?_
    refine lv_iload_n hx hb dR_remove_28 rfl (lv_at hl 3 rfl) ?_
    refine lv_iconst (v := nI 1) hx hb dR_remove_29 (by decide) ?_
    refine lv_iadd hx hb dR_remove_30 ?_
    refine zw_ti (nI_add _ _) ?_
    refine zw_iald hx hb hK hH 0 hrw rfl (i + 1) rfl (by omega) (by decide) dR_remove_31 ?_
    refine zw_ti (show nI (zrk Y.rw j i (i + 1)) = nI (Y.rw (i + 1)) from congrArg nI (by unfold zrk; rw [if_neg (by omega), if_neg (by omega)])) ?_
    refine zw_iast hx hb hK hH hS 0 hrw rfl (i) rfl (by omega) (by decide) dR_remove_32 (fun H1 L1 hH hz1 hS => ?_)
    have hsz : H1.size = sz := hz1.trans hsz
    obtain ⟨M1, hM1⟩ : ∃ Mq, Mq = zw_u Mi (z + 5) (.inl (G.2.1 0, 120, .inl (upd (fun a9 => nI (zrk Y.rw j i a9)) i (nI (Y.rw (i + 1)))))) := ⟨_, rfl⟩
    have hH : zw_H G.1 zCl B M1 H1 := by rw [hM1]; exact hH
    have hx0 : M1 x = some (.inr (2, zoR th n mb z st.fl.length st.se st.lo st.go st.pa pt)) := by rw [hM1, zw_un _ _ (by omega)]; exact hx0
    have hdn : M1 z = some (.inl (G.2.1 2, 8, .inl (fun a9 => nI (st.dn a9).toNat))) := by rw [hM1, zw_un _ _ (by omega)]; exact hdn
    have hmd : M1 (z + 1) = some (.inl (G.2.1 0, 8, .inl (fun a9 => nI ((st.wt a9).length)))) := by rw [hM1, zw_un _ _ (by omega)]; exact hmd
    have hwt : M1 (z + 2) = some (.inl (G.2.1 0, 488, .inl (fun a9 => nI ((st.wt (a9 / 61)).getD (a9 % 61) 0)))) := by rw [hM1, zw_un _ _ (by omega)]; exact hwt
    have hhas : M1 (z + 3) = some (.inl (G.2.1 0, 3840, .inl (fun a9 => nI ((st.lg (a9 / 480)).getD (a9 % 480) 0)))) := by rw [hM1, zw_un _ _ (by omega)]; exact hhas
    have hmn : M1 (z + 4) = some (.inl (G.2.1 0, 8, .inl (fun a9 => nI ((st.lg a9).length)))) := by rw [hM1, zw_un _ _ (by omega)]; exact hmn
    have hnu : M1 (z + 6) = some (.inl (G.2.1 0, 120, .inl Y.nu)) := by rw [hM1, zw_un _ _ (by omega)]; exact hnu
    have hfr : M1 (z + 7) = some (.inl (G.2.1 0, 120, .inl Y.fr)) := by rw [hM1, zw_un _ _ (by omega)]; exact hfr
    have hto : M1 (z + 8) = some (.inl (G.2.1 0, 120, .inl Y.to)) := by rw [hM1, zw_un _ _ (by omega)]; exact hto
    have hsi : M1 (z + 9) = some (.inl (G.2.1 0, 120, .inl Y.si)) := by rw [hM1, zw_un _ _ (by omega)]; exact hsi
    have hcl : M1 (z + 10) = some (.inl (G.2.1 1, 120, .inr (.inl Y.cl))) := by rw [hM1, zw_un _ _ (by omega)]; exact hcl
    have hins : M1 (z + 11) = some (.inl (G.2.1 0, 57600, .inl Y.ins)) := by rw [hM1, zw_un _ _ (by omega)]; exact hins
    have hpart : M1 (z + 12) = some (.inl (G.2.1 0, 480, .inl Y.part)) := by rw [hM1, zw_un _ _ (by omega)]; exact hpart
    have hrw : M1 (z + 5) = some (.inl (G.2.1 0, 120, .inl (upd (fun a9 => nI (zrk Y.rw j i a9)) i (nI (Y.rw (i + 1)))))) := by rw [hM1]; exact zw_us _ _ _
    refine lv_iinc (v := (nI (i + 1))) (lv' := [(3, .int (nI (i + 1))), (0, .ref x), (1, .int (nI j)), (2, .int (nI (Y.rw j)))]) hx hb dR_remove_33 hl (k := 3) rfl (nI_add _ _) (by decide) rfl (fun ls hl => ?_)
    refine lv_goto (tgt := 9) hx hb dR_remove_36 (by decide) ?_
    exact ih b1 ls H1 _ ⟨lv_sub hl [1, 2, 3, 0] rfl, M1, hH, hS, ⟨by omega, by rw [hM1, hMi, zw_uu, zrk_s _ hji], hsz⟩⟩

