/-! THE LAW'S START -/
def zEX (G : zG) (B b len : Nat) (xs : Nat → Int32) (U : State) : Prop := zE G B U ∧ va_X b len xs U U.heap
theorem zEX_blind {G : zG} {B b len : Nat} {xs : Nat → Int32} (U : State) (g : JFrame) (mk : MethodId) (a : Array Value) (h : zEX G B b len xs U) : zEX G B b len xs (U.calling g mk a) := ⟨zE_blind U g mk a h.1, va_X.moved (u := U) (U := U.calling g mk a) (Vm.Alike.refl U.vm) h.2⟩
theorem zEX_at {G : zG} {B b len : Nat} {xs : Nat → Int32} {s : State} {H : Heap} {locs : List Loc} (hE : zE G B s) (hX : va_X b len xs s s.heap) (hbB : b < B) (hbl : b < s.heap.size) (hS : va_S (zw_A B) s.heap H locs) (U : State) (hU : U.heap = H) (hW : s.WarmedH U.vm) : zEX G B b len xs U := by
  refine ⟨zE_at hE hS U hU hW, ?_⟩
  rw [hU]
  exact va_X.moved hW.alike (hX.kept (hS.2.1 b hbl (Nat.not_le.mpr hbB)))
/-- a script's number, or 0 -/
def zat (len : Nat) (xs : Nat → Int32) (k : Nat) : Int32 := if k < len then xs k else 0
theorem zC_def : ∀ j, j < 14 → defaultValue (tC j) = vp_V [.int 0, .int 0, .null, .null, .null, .null, .null, .null, .int 0, .null, .int 0, .int 0, .int 0, .int 0] j := by
  intro j hj
  rcases (show j = 0 ∨ j = 1 ∨ j = 2 ∨ j = 3 ∨ j = 4 ∨ j = 5 ∨ j = 6 ∨ j = 7 ∨ j = 8 ∨ j = 9 ∨ j = 10 ∨ j = 11 ∨ j = 12 ∨ j = 13 by omega) with rfl | rfl | rfl | rfl | rfl | rfl | rfl | rfl | rfl | rfl | rfl | rfl | rfl | rfl <;> rfl
theorem zR_def : ∀ j, j < 22 → defaultValue (tR j) = vp_V [.int 0, .int 0, .int 0, .null, .null, .null, .null, .null, .null, .int 0, .null, .null, .null, .null, .null, .null, .int 0, .int 0, .int 0, .int 0, .null, .int 0] j := by
  intro j hj
  rcases (show j = 0 ∨ j = 1 ∨ j = 2 ∨ j = 3 ∨ j = 4 ∨ j = 5 ∨ j = 6 ∨ j = 7 ∨ j = 8 ∨ j = 9 ∨ j = 10 ∨ j = 11 ∨ j = 12 ∨ j = 13 ∨ j = 14 ∨ j = 15 ∨ j = 16 ∨ j = 17 ∨ j = 18 ∨ j = 19 ∨ j = 20 ∨ j = 21 by omega) with rfl | rfl | rfl | rfl | rfl | rfl | rfl | rfl | rfl | rfl | rfl | rfl | rfl | rfl | rfl | rfl | rfl | rfl | rfl | rfl | rfl | rfl <;> rfl
set_option maxHeartbeats 4000000 in
set_option maxRecDepth 100000 in
theorem kL_cell (l : Launch) (G : zG) (B : Nat) (M : zw_M) (b len : Nat) (xs : Nat → Int32) (hbB : b < B) (hlen : len ≤ 1538) (k : Nat) (hk : k ≤ 1) : Met l yL_cell (Cond.code yL_cell bL_cell 2 (some .int) :: zT) { frames := 0, cells := 0, slots := 0, locals := 0 } (zr_p (zEX G B b len xs) G.1 zCl B M [.ref b, .int (nI k)]) (k2_QcV (.int (zat len xs k))) 0 0 (fun _ => False) := by
  refine Met.ofW (cc := bL_cell) (maxL := 2) (ret := (some .int)) (by decide) rfl ?_
  intro p e s m args below meth c s₁ B0 hml hv
  obtain ⟨rfl, ⟨hE, hX⟩, hH⟩ := hv
  have hx := B0.exec
  have hb := B0.bytes
  have hr := B0.returns
  have hlocks := B0.notSynchronized
  have hz : ∀ w ∈ zT, w.before _ s = true := fun w h => atoms_spec (ws := Cond.code yL_cell bL_cell 2 (some .int) :: zT) B0.pre w (List.mem_cons_of_mem _ h)
  have hown : s.vm.findClass RL = some m.cls := findClass_of_methodNamed B0.named
  have hK := hE.1
  have hl := lv_entry ([.ref b, .int (nI k)]) (n := 2) (Nat.le_of_ble_eq_true rfl)
  rw [lg_entry_eq]
  generalize (lg_sl ([.ref b, .int (nI k)]) ++ List.replicate (2 - (lg_sl ([.ref b, .int (nI k)])).length) Slot.unset).toArray = ls at hl ⊢
  have hl : lv_has ls 2 [(0, .ref b), (1, .int (nI k))] := hl
  have hS : va_S (zw_A B) s.heap s.heap [] := va_S.rf
  have hbl : b < s.heap.size := Nat.lt_of_lt_of_le hbB hE.2.1
  have hbA : ¬ zw_A B b := Nat.not_le.mpr hbB
  refine lv_iload_n hx hb dL_cell_0 rfl (lv_at hl 1 rfl) ?_
  refine lv_aload_n hx hb dL_cell_1 rfl (lv_at hl 0 rfl) ?_
  refine va_slen hx hb hX hbl hbA hS dL_cell_2 ?_
  refine zw_ti (v' := nI len) rfl ?_
  refine zc_ge (tgt := 12) hx hb dL_cell_3 (by decide) (by omega) (by omega) (fun b1 => ?_) (fun b1 => ?_)
  · refine lv_iconst (v := nI 0) hx hb dL_cell_12 (by decide) ?_
    refine zw_ti (show nI 0 = zat len xs k by unfold zat; rw [if_neg (by omega)]; exact nI_0) ?_
    exact W.iret (v := (zat len xs k)) hx hb hr (fun t ht hW => ⟨rfl, ht⟩) (fun q h => by cases h) dL_cell_13
  · refine lv_aload_n hx hb dL_cell_6 rfl (lv_at hl 0 rfl) ?_
    refine lv_iload_n hx hb dL_cell_7 rfl (lv_at hl 1 rfl) ?_
    refine va_sld hx hb hX hbl hbA hS (vp_in_nI (show k < len by omega) (by omega)) dL_cell_8 ?_
    refine zw_ti (congrArg xs (nI_clamp (show k < 2 ^ 31 by omega))) ?_
    refine lv_goto (tgt := 13) hx hb dL_cell_9 (by decide) ?_
    refine zw_ti (show xs k = zat len xs k by unfold zat; rw [if_pos b1]) ?_
    exact W.iret (v := (zat len xs k)) hx hb hr (fun t ht hW => ⟨rfl, ht⟩) (fun q h => by cases h) dL_cell_13
set_option maxHeartbeats 8000000 in
set_option maxRecDepth 100000 in
theorem law_start {p : Program} {l : Launch} {e : Env} {s : State} {m : MethodId} {below : List Frame} {meth : Method} {c : Code} {G : zG} {b len : Nat} {xs : Nat → Int32} (C0 : zLC p l s m meth c b len xs G) : W p l e room_1 s m #[Value.ref b] below meth c s.heap [] 0 0 (lw_Z below #[Value.ref b] s) (entryFrame m ([Value.ref b] : List Value).toArray 8) := by
  obtain ⟨hx, hb, hr, hml, hown, hz, hX, hbl, hlocks, hEN, hlen, hflag⟩ := id C0
  have hE := hEN.1
  have hK := hE.1
  have hS : va_S (zw_A s.heap.size) s.heap s.heap [] := va_S.rf
  have hH : zw_H G.1 zCl s.heap.size (fun _ => none) s.heap := fun a e h => by cases h
  have hl := lv_entry ([.ref b]) (n := 8) (Nat.le_of_ble_eq_true rfl)
  rw [lg_entry_eq]
  generalize (lg_sl ([.ref b]) ++ List.replicate (8 - (lg_sl ([.ref b])).length) Slot.unset).toArray = ls at hl ⊢
  have hl : lv_has ls 8 [(0, .ref b)] := hl
  refine zw_new (D := G.1) (ci := 1) (fs := [.int 0, .int 0, .null, .null, .null, .null, .null, .null, .int 0, .null, .int 0, .int 0, .int 0, .int 0]) (C := RC) (T := TC) (N := 14) hx hb hz iC tC tC_ok hown (hz _ zm_13) (hz _ zm_14) (hz _ zm_1) hK hH hS (Nat.le_trans hE.2.1 hS.1) rfl zC_def (Nat.le_of_ble_eq_true rfl) (Nat.le_of_ble_eq_true rfl) dL_law_0 (fun H1 hH hz1 hS => ?_)
  obtain ⟨M1, hM1⟩ : ∃ Mq, Mq = zw_u (fun _ => none) s.heap.size (.inr (1, [.int 0, .int 0, .null, .null, .null, .null, .null, .null, .int 0, .null, .int 0, .int 0, .int 0, .int 0])) := ⟨_, rfl⟩
  rw [← hM1] at hH
  have hx0 : M1 s.heap.size = some (.inr (1, [.int 0, .int 0, .null, .null, .null, .null, .null, .null, .int 0, .null, .int 0, .int 0, .int 0, .int 0])) := by rw [hM1]; exact zw_us _ _ _
  have e1 : H1.size = s.heap.size + 1 := hz1
  clear hz1
  refine lv_dup hx hb dL_law_3 rfl ?_
  refine lv_aload_n hx hb dL_law_4 rfl (lv_at hl 0 rfl) ?_
  refine lv_iconst (v := nI 0) hx hb dL_law_5 (by decide) ?_
  refine zr_S (Ev := zEX G s.heap.size b len xs) (As := [.ref b, .int (nI 0)]) (rest := [.ref s.heap.size, .ref s.heap.size]) ⟨hx, hb, hml, hown, hz⟩ (kL_cell l G s.heap.size M1 b len xs hbl hlen 0 (by decide)) (zt_S zm_137 zm_138 zm_0 zm_139) rfl rfl rfl (show _ ∧ _ ∧ _ ∧ _ = some 2 from by decide +kernel) ⟨Nat.le_of_ble_eq_true rfl, Nat.le_of_ble_eq_true rfl⟩ zEX_blind (zEX_at hE hX hbl hbl hS) hH hl.1 rfl (Nat.le_of_ble_eq_true rfl) dL_law_6 ⟨Nat.le_of_ble_eq_true rfl, Nat.le_of_ble_eq_true rfl⟩ ?_
  refine lv_aload_n hx hb dL_law_9 rfl (lv_at hl 0 rfl) ?_
  refine lv_iconst (v := nI 1) hx hb dL_law_10 (by decide) ?_
  refine zr_S (Ev := zEX G s.heap.size b len xs) (As := [.ref b, .int (nI 1)]) (rest := [.int (zat len xs 0), .ref s.heap.size, .ref s.heap.size]) ⟨hx, hb, hml, hown, hz⟩ (kL_cell l G s.heap.size M1 b len xs hbl hlen 1 (by decide)) (zt_S zm_137 zm_138 zm_0 zm_139) rfl rfl rfl (show _ ∧ _ ∧ _ ∧ _ = some 2 from by decide +kernel) ⟨Nat.le_of_ble_eq_true rfl, Nat.le_of_ble_eq_true rfl⟩ zEX_blind (zEX_at hE hX hbl hbl hS) hH hl.1 rfl (Nat.le_of_ble_eq_true rfl) dL_law_11 ⟨Nat.le_of_ble_eq_true rfl, Nat.le_of_ble_eq_true rfl⟩ ?_
  obtain ⟨a0, ha0⟩ : ∃ q, q = zat len xs 0 := ⟨_, rfl⟩
  obtain ⟨a1, ha1⟩ : ∃ q, q = zat len xs 1 := ⟨_, rfl⟩
  rw [← ha0, ← ha1]
  refine zr_I (As := [.int a0, .int a1]) (rest := [.ref s.heap.size]) (mc := 23) (ms := 5000) ⟨hx, hb, hml, hown, hz⟩ (kC_init l G s.heap.size M1 _ s.heap.size a0 a1 hx0) (zt_I zm_17) rfl rfl rfl (hz _ zm_1) (hz _ zm_15) (hz _ zm_16) rfl (show _ ∧ _ ∧ _ = some 2 from by decide +kernel) ⟨Nat.le_of_ble_eq_true rfl, Nat.le_of_ble_eq_true rfl⟩ zE_blind (zE_at hE hS) hH hS hl.1 rfl (Nat.le_of_ble_eq_true rfl) dL_law_14 ⟨Nat.le_of_ble_eq_true rfl, Nat.le_of_ble_eq_true rfl⟩ (fun M2 szH2 H2 LH2 hp hH hz3 hy3 hS => ?_)
  obtain ⟨hp1, hp2, hp3⟩ := hp
  obtain ⟨n, en⟩ : ∃ q, q = zcl 2 8 a0 := ⟨_, rfl⟩
  obtain ⟨mb, emb⟩ : ∃ q, q = zcl 16 2000 a1 := ⟨_, rfl⟩
  obtain ⟨n2, n8, -⟩ := zcl_in (lo := 2) (hi := 8) (by decide) (by decide) a0
  obtain ⟨-, m2, -⟩ := zcl_in (lo := 16) (hi := 2000) (by decide) (by decide) a1
  rw [← en] at hp1 hp2 n2 n8
  rw [← emb] at hp2 m2
  have e2 : H2.size = H1.size + 7 + 2 * n := hz3.trans hp1
  have hH2 := hH
  refine lv_astore_n (lv' := [(1, .ref s.heap.size), (0, .ref b)]) hx hb dL_law_17 rfl hl (by decide) rfl (fun ls hl => ?_)
  refine zw_new (D := G.1) (ci := 2) (fs := [.int 0, .int 0, .int 0, .null, .null, .null, .null, .null, .null, .int 0, .null, .null, .null, .null, .null, .null, .int 0, .int 0, .int 0, .int 0, .null, .int 0]) (C := RR) (T := TR) (N := 22) hx hb hz iR tR tR_ok hown (hz _ zm_381) (hz _ zm_382) (hz _ zm_3) hK hH hS (Nat.le_trans hE.2.1 hS.1) rfl zR_def (Nat.le_of_ble_eq_true rfl) (Nat.le_of_ble_eq_true rfl) dL_law_18 (fun H3 hH hz1 hS => ?_)
  obtain ⟨M3, hM3⟩ : ∃ Mq, Mq = zw_u M2 H2.size (.inr (2, [.int 0, .int 0, .int 0, .null, .null, .null, .null, .null, .null, .int 0, .null, .null, .null, .null, .null, .null, .int 0, .int 0, .int 0, .int 0, .null, .int 0])) := ⟨_, rfl⟩
  rw [← hM3] at hH
  have hx1 : M3 H2.size = some (.inr (2, [.int 0, .int 0, .int 0, .null, .null, .null, .null, .null, .null, .int 0, .null, .null, .null, .null, .null, .null, .int 0, .int 0, .int 0, .int 0, .null, .int 0])) := by rw [hM3]; exact zw_us _ _ _
  have e3 : H3.size = H2.size + 1 := hz1
  clear hz1
  refine lv_dup hx hb dL_law_21 rfl ?_
  refine lv_aload_n hx hb dL_law_22 rfl (lv_at hl 1 rfl) ?_
  refine lv_iconst (v := nI 0) hx hb dL_law_23 (by decide) ?_
  refine zr_S (Ev := zEX G s.heap.size b len xs) (As := [.ref b, .int (nI 0)]) (rest := [.ref H2.size, .ref H2.size]) ⟨hx, hb, hml, hown, hz⟩ (kL_cell l G s.heap.size M3 b len xs hbl hlen 0 (by decide)) (zt_S zm_137 zm_138 zm_0 zm_139) rfl rfl rfl (show _ ∧ _ ∧ _ ∧ _ = some 2 from by decide +kernel) ⟨Nat.le_of_ble_eq_true rfl, Nat.le_of_ble_eq_true rfl⟩ zEX_blind (zEX_at hE hX hbl hbl hS) hH hl.1 rfl (Nat.le_of_ble_eq_true rfl) dL_law_24 ⟨Nat.le_of_ble_eq_true rfl, Nat.le_of_ble_eq_true rfl⟩ ?_
  refine lv_aload_n hx hb dL_law_27 rfl (lv_at hl 1 rfl) ?_
  refine lv_iconst (v := nI 1) hx hb dL_law_28 (by decide) ?_
  refine zr_S (Ev := zEX G s.heap.size b len xs) (As := [.ref b, .int (nI 1)]) (rest := [.int (zat len xs 0), .ref H2.size, .ref H2.size]) ⟨hx, hb, hml, hown, hz⟩ (kL_cell l G s.heap.size M3 b len xs hbl hlen 1 (by decide)) (zt_S zm_137 zm_138 zm_0 zm_139) rfl rfl rfl (show _ ∧ _ ∧ _ ∧ _ = some 2 from by decide +kernel) ⟨Nat.le_of_ble_eq_true rfl, Nat.le_of_ble_eq_true rfl⟩ zEX_blind (zEX_at hE hX hbl hbl hS) hH hl.1 rfl (Nat.le_of_ble_eq_true rfl) dL_law_29 ⟨Nat.le_of_ble_eq_true rfl, Nat.le_of_ble_eq_true rfl⟩ ?_
  rw [← ha0, ← ha1]
  refine zr_I (As := [.int a0, .int a1]) (rest := [.ref H2.size]) (mc := 13) (ms := 63200) ⟨hx, hb, hml, hown, hz⟩ (kR_init l G s.heap.size M3 _ H2.size a0 a1 hx1) (zt_I zm_385) rfl rfl rfl (hz _ zm_3) (hz _ zm_383) (hz _ zm_384) rfl (show _ ∧ _ ∧ _ = some 2 from by decide +kernel) ⟨Nat.le_of_ble_eq_true rfl, Nat.le_of_ble_eq_true rfl⟩ zE_blind (zE_at hE hS) hH hS hl.1 rfl (Nat.le_of_ble_eq_true rfl) dL_law_32 ⟨Nat.le_of_ble_eq_true rfl, Nat.le_of_ble_eq_true rfl⟩ (fun M4 szH4 H4 LH4 hp hH hz5 hy5 hS => ?_)
  obtain ⟨hq1, hq2, hq3⟩ := hp
  rw [← en, ← emb] at hq2
  have e4 : H4.size = H3.size + 13 := hz5.trans hq1
  refine lv_astore_n (lv' := [(2, .ref H2.size), (1, .ref s.heap.size), (0, .ref b)]) hx hb dL_law_35 rfl hl (by decide) rfl (fun ls hl => ?_)
  refine lv_iconst (v := nI 1) hx hb dL_law_36 (by decide) ?_
  refine zw_newa (atype := .long) (cA := G.2.1 1) (a0 := (1, .inr (.inl (fun _ => 0)))) hx hb (hz _ zm_75) hK hH hS (Nat.le_trans hE.2.1 hS.1) 1 rfl rfl rfl (by decide) (Nat.le_of_ble_eq_true rfl) (Nat.le_of_ble_eq_true rfl) dL_law_37 (fun H5 hH hz6 hS => ?_)
  obtain ⟨M5, hM5⟩ : ∃ Mq, Mq = zw_u M4 H4.size (.inl (G.2.1 1, 1, .inr (.inl (fun _ => 0)))) := ⟨_, rfl⟩
  rw [← hM5] at hH
  have hML : M5 H4.size = some (.inl (G.2.1 1, 1, .inr (.inl (fun _ => 0)))) := by rw [hM5]; exact zw_us _ _ _
  refine lv_astore_n (lv' := [(3, .ref H4.size), (2, .ref H2.size), (1, .ref s.heap.size), (0, .ref b)]) hx hb dL_law_39 rfl hl (by decide) rfl (fun ls hl => ?_)
  refine lv_iconst (v := nI 2) hx hb dL_law_40 (by decide) ?_
  refine lv_istore (lv' := [(4, .int (nI 2)), (3, .ref H4.size), (2, .ref H2.size), (1, .ref s.heap.size), (0, .ref b)]) hx hb dL_law_41 hl (by decide) rfl (fun ls hl => ?_)
  obtain ⟨g, hCR⟩ := hp2 H4.size (by omega)
  have hCR : zCR G M5 s.heap.size H1.size H4.size n mb z0 [] g := hCR.to (fun q9 e9 h9 h8 => by
    have h7 : q9 < H2.size := hH2.lt h8
    rw [hM5, zw_un _ _ (by omega)]
    refine (hq3 q9 (by omega) (by omega)).trans ?_
    rw [hM3, zw_un _ _ (by omega)]
    exact h8)
  have hRR : zRR G M5 H2.size H3.size n mb z0 0 0 zYi := hq2.to2 (fun q9 e9 h9 h8 => by
    rw [hM5, zw_un _ _ (by omega)]
    exact h8)
  refine W.widen (k := 39 + 960 * 0) (n := 68237 + 3360 * 0) (Nat.le_of_ble_eq_true rfl) (Nat.le_of_ble_eq_true rfl) ?_
  exact law_loop C0 (x := s.heap.size) (z := H1.size) (L := H4.size) (n := n) (mb := mb) (xr := H2.size) (zr := H3.size) ⟨by omega, by omega, by omega, by omega, n2, n8, m2⟩ 513 0 (by decide) (by decide) z0 M5 H5 _ zOK_0 ⟨hH, hS, by omega, ⟨[], g, hCR⟩, ⟨0, 0, zYi, hRR⟩, _, hML⟩ ls (lv_sub hl [4, 3, 2, 1, 0] rfl)
