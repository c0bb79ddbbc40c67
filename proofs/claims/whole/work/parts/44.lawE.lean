/-! THE LAW'S LOOP -/
/-- what the law's run fixes -/
def zLC (p : Program) (l : Launch) (s : State) (m : MethodId) (meth : Method) (c : Code) (b len : Nat) (xs : Nat → Int32) (G : zG) : Prop :=
  p.tables.exec = Jvm.exec ∧ c.code = bL_law ∧ meth.sig.returnType = some .boolean ∧ c.maxLocals = 8 ∧ s.vm.findClass RL = some m.cls ∧ (∀ w ∈ zT, w.before #[Value.ref b] s = true) ∧ va_X b len xs s s.heap ∧ b < s.heap.size ∧ meth.locks = false ∧ zEN G s.heap.size s ∧ len ≤ 1538 ∧ l.flags = flags0
/-- where both objects lie -/
def zLay (x z L n mb xr zr : Nat) : Prop := x < z ∧ z + 6 + 2 * n < xr ∧ xr < zr ∧ zr + 12 < L ∧ 2 ≤ n ∧ n ≤ 8 ∧ mb ≤ 2000
/-- class, reference and the law's own array at the loop's head -/
def zIV (G : zG) (x z L n mb xr zr : Nat) (H0 : Heap) (st : zSt) (M : zw_M) (H : Heap) (locs : List Loc) : Prop :=
  zw_H G.1 zCl H0.size M H ∧ va_S (zw_A H0.size) H0 H locs ∧ L < H.size ∧ (∃ (qs : List Nat) (g : Nat → Int32), zCR G M x z L n mb st qs g) ∧ (∃ (th pt : Nat) (Y : zRX), zRR G M xr zr n mb st th pt Y) ∧ ∃ f : Nat → Int64, M L = some (.inl (G.2.1 1, 1, .inr (.inl f)))
set_option maxHeartbeats 8000000 in
set_option maxRecDepth 100000 in
theorem law_make {p : Program} {l : Launch} {e : Env} {s : State} {m : MethodId} {below : List Frame} {meth : Method} {c : Code} {G : zG} {b len : Nat} {xs : Nat → Int32} (C0 : zLC p l s m meth c b len xs G) {x z L n mb xr zr : Nat} (lay : zLay x z L n mb xr zr) {st : zSt} (hok : zOK n st) {i : Nat} (hi : i + 3 ≤ len) {M : zw_M} {H : Heap} {locs : List Loc} {cells slots : Nat} {Q : State → Prop} (hce : cells + 960 ≤ 601024) (hsl : slots + 3360 ≤ 7293000) (hI : zIV G x z L n mb xr zr s.heap st M H locs) {ls : Array Slot} (hl : lv_has ls 8 [(0, .ref b), (1, .ref x), (2, .ref xr), (3, .ref L), (4, .int (nI i))])
    (kk : ∀ (M1 : zw_M) (H1 : Heap) (locs1 : List Loc) (st1 : zSt) (ls1 : Array Slot), zOK n st1 → zIV G x z L n mb xr zr s.heap st1 M1 H1 locs1 → lv_has ls1 8 [(0, .ref b), (1, .ref x), (2, .ref xr), (3, .ref L), (4, .int (nI i))] → W p l e room_1 s m #[Value.ref b] below meth c H1 locs1 (cells + 960) (slots + 3360) Q (F0 m 783 ls1 [])) : W p l e room_1 s m #[Value.ref b] below meth c H locs cells slots Q (F0 m 128 ls []) := by
  obtain ⟨hx, hb, hr, hml, hown, hz, hX, hbl, hlocks, hEN, hlen, hflag⟩ := C0
  have hE := hEN.1
  obtain ⟨y1, y2, y3, y4, y5, y6, y7⟩ := lay
  obtain ⟨hH, hS, hLs, ⟨qs, g, hCR⟩, ⟨th, pt, Y, hRR⟩, f0, hML⟩ := hI
  have hK := hE.1
  have hbA : ¬ zw_A s.heap.size b := Nat.not_le.mpr hbl
  obtain ⟨k, rb, st1, hk3, hok1, hC, hF⟩ := mk_make l hflag G s.heap.size x z L n mb xr zr st y5 y6 y7 hok (xs (i + 1)) (xs (i + 2))
  refine lv_aload_n hx hb dL_law_128 rfl (lv_at hl 1 rfl) ?_
  refine lv_aload_n hx hb dL_law_129 rfl (lv_at hl 0 rfl) ?_
  refine lv_iload hx hb dL_law_130 (lv_at hl 4 rfl) ?_
  refine lv_iconst (v := nI 1) hx hb dL_law_132 (by decide) ?_
  refine lv_iadd hx hb dL_law_133 ?_
  refine zw_ti (nI_add _ _) ?_
  refine va_sld hx hb hX hbl hbA hS (vp_in_nI (show (i + 1) < len by omega) (by omega)) dL_law_134 ?_
  refine zw_ti (congrArg xs (nI_clamp (show (i + 1) < 2 ^ 31 by omega))) ?_
  refine lv_aload_n hx hb dL_law_135 rfl (lv_at hl 0 rfl) ?_
  refine lv_iload hx hb dL_law_136 (lv_at hl 4 rfl) ?_
  refine lv_iconst (v := nI 2) hx hb dL_law_138 (by decide) ?_
  refine lv_iadd hx hb dL_law_139 ?_
  refine zw_ti (nI_add _ _) ?_
  refine va_sld hx hb hX hbl hbA hS (vp_in_nI (show (i + 2) < len by omega) (by omega)) dL_law_140 ?_
  refine zw_ti (congrArg xs (nI_clamp (show (i + 2) < 2 ^ 31 by omega))) ?_
  refine lv_aload_n hx hb dL_law_141 rfl (lv_at hl 3 rfl) ?_
  refine zr_SW (As := [.ref x, .int (xs (i + 1)), .int (xs (i + 2)), .ref L]) (rest := []) (mc := 960) (ms := 3360) ⟨hx, hb, hml, hown, hz⟩ (hC M _ qs g f0 hCR hML (by omega) hLs) (zt_W zm_142) rfl rfl rfl (hz _ zm_0) (hz _ zm_140) (hz _ zm_141) (show _ ∧ _ ∧ _ = some 4 from by decide +kernel) ⟨Nat.le_of_ble_eq_true rfl, Nat.le_of_ble_eq_true rfl⟩ zEN_blind (zEN_at hEN hS) hH hS hl.1 rfl (Nat.le_of_ble_eq_true rfl) dL_law_142 ⟨hce, hsl⟩ (fun r1 M1 sz1 H1 L1 hp hH hz1 hz2 hS => ?_)
  obtain ⟨hr1, ⟨qs1, g1, hCR⟩, hfm, hs1, f1, hML, hf1⟩ := hp
  subst hr1
  have hRR : zRR G M1 xr zr n mb st th pt Y := hRR.to2 (fun q9 e9 h9 h8 => (hfm q9 (by omega) (by omega) (Or.inr (by omega)) (by omega)).trans h8)
  have hLs : L < H1.size := by omega
  refine lv_istore (lv' := [(5, .int (nI k)), (0, .ref b), (1, .ref x), (2, .ref xr), (3, .ref L), (4, .int (nI i))]) hx hb dL_law_145 hl (by decide) rfl (fun ls hl => ?_)
  refine lv_aload_n hx hb dL_law_147 rfl (lv_at hl 3 rfl) ?_
  refine lv_aload_n hx hb dL_law_148 rfl (lv_at hl 1 rfl) ?_
  refine lv_iload hx hb dL_law_149 (lv_at hl 5 rfl) ?_
  refine lv_iconst (v := nI 1) hx hb dL_law_151 (by decide) ?_
  refine lv_iadd hx hb dL_law_152 ?_
  refine zw_ti (nI_add _ _) ?_
  refine va_sld hx hb hX hbl hbA hS (vp_in_nI (show (i + 1) < len by omega) (by omega)) dL_law_153 ?_
  refine zw_ti (congrArg xs (nI_clamp (show (i + 1) < 2 ^ 31 by omega))) ?_
  refine lv_aload_n hx hb dL_law_154 rfl (lv_at hl 1 rfl) ?_
  refine lv_iload hx hb dL_law_155 (lv_at hl 5 rfl) ?_
  refine lv_iconst (v := nI 2) hx hb dL_law_157 (by decide) ?_
  refine lv_iadd hx hb dL_law_158 ?_
  refine zw_ti (nI_add _ _) ?_
  refine va_sld hx hb hX hbl hbA hS (vp_in_nI (show (i + 2) < len by omega) (by omega)) dL_law_159 ?_
  refine zw_ti (congrArg xs (nI_clamp (show (i + 2) < 2 ^ 31 by omega))) ?_
  refine zr_Vi (As := [.int (xs (i + 1)), .int (xs (i + 2))]) (rest := []) (q := (RR, TR, 22)) (mc := 0) (ms := 0) ⟨hx, hb, hml, hown, hz⟩ (hF M1 _ th pt Y hRR) (zt_V zm_459 zm_460 zm_461 zm_3 zm_462) rfl rfl rfl (show _ ∧ _ ∧ _ ∧ _ = some 2 from by decide +kernel) ⟨Nat.le_of_ble_eq_true rfl, Nat.le_of_ble_eq_true rfl⟩ zE_blind (zE_at hE hS) hH hK hRR.obj rfl rfl hS hl.1 rfl (Nat.le_of_ble_eq_true rfl) dL_law_160 ⟨(show cells + 960 + 0 ≤ 601024 by omega), (show slots + 3360 + 0 ≤ 7293000 by omega)⟩ (fun r2 M2 sz2 H2 L2 hp hH hz3 hz4 hS => ?_)
  obtain ⟨hr2, ⟨pt2, Y2, hRR⟩, hrf, hs2⟩ := hp
  subst hr2
  have hCR : zCR G M2 x z L n mb st1 qs1 g1 := hCR.to (fun q9 e9 h9 h8 => (hrf q9 (by omega) (by omega)).trans h8)
  have hML : M2 L = some (.inl (G.2.1 1, 1, .inr (.inl f1))) := (hrf L (by omega) (by omega)).trans hML
  have hLs : L < H2.size := by omega
  refine lv_istore (lv' := [(6, .int r2), (5, .int (nI k)), (0, .ref b), (1, .ref x), (2, .ref xr), (3, .ref L), (4, .int (nI i))]) hx hb dL_law_163 hl (by decide) rfl (fun ls hl => ?_)
  refine lv_aload_n hx hb dL_law_165 rfl (lv_at hl 4 rfl) ?_
  refine zr_V (As := []) (rest := []) (q := (RR, TR, 22)) ⟨hx, hb, hml, hown, hz⟩ (kR_thrown l G s.heap.size M2 xr zr n mb st1 k pt2 Y2 y6 hRR) (zt_V zm_455 zm_456 zm_457 zm_3 zm_458) rfl rfl rfl (show _ ∧ _ ∧ _ ∧ _ = some 0 from by decide +kernel) ⟨Nat.le_of_ble_eq_true rfl, Nat.le_of_ble_eq_true rfl⟩ zE_blind (zE_at hE hS) hH hK hRR.obj rfl rfl hl.1 rfl (Nat.le_of_ble_eq_true rfl) dL_law_166 ⟨(show cells + 960 + 0 ≤ 601024 by omega), (show slots + 3360 + 0 ≤ 7293000 by omega)⟩ ?_
  refine lv_iload hx hb dL_law_169 (lv_at hl 1 rfl) ?_
  refine zc_eq (tgt := 176) hx hb dL_law_171 (by decide) (by omega) (by omega) (fun b1 => ?_) (fun b1 => ?_)
  · refine lv_iload hx hb dL_law_176 (lv_at hl 1 rfl) ?_
    refine zc_ne0 (tgt := 193) hx hb dL_law_178 (by decide) (by omega) (fun b2 => ?_) (fun b2 => ?_)
    · refine lv_goto (tgt := 783) hx hb dL_law_193 (by decide) ?_
      refine W.widen (k := cells + 960) (n := slots + 3360) (by omega) (by omega) ?_
      exact kk M2 _ _ st1 ls hok1 ⟨hH, hS, hLs, ⟨_, _, hCR⟩, ⟨_, _, _, hRR⟩, f1, hML⟩ (lv_sub hl [2, 3, 4, 5, 6] rfl)
    · refine lv_aload_n hx hb dL_law_181 rfl (lv_at hl 5 rfl) ?_
      refine lv_iconst (v := nI 0) hx hb dL_law_182 (by decide) ?_
      refine zw_lald hx hb hK hH 1 hML rfl (0) rfl (by decide) (by decide) dL_law_183 ?_
      refine lv_iload hx hb dL_law_184 (lv_at hl 0 rfl) ?_
      refine lv_i2l hx hb dL_law_186 rfl ?_
      refine W.lcmp hx hb dL_law_187 ?_
      refine lv_if_eq (tgt := 193) hx hb dL_law_188 (by decide) (fun b3 => ?_) (fun b3 => ?_)
      · refine lv_goto (tgt := 783) hx hb dL_law_193 (by decide) ?_
        refine W.widen (k := cells + 960) (n := slots + 3360) (by omega) (by omega) ?_
        exact kk M2 _ _ st1 ls hok1 ⟨hH, hS, hLs, ⟨_, _, hCR⟩, ⟨_, _, _, hRR⟩, f1, hML⟩ (lv_sub hl [2, 3, 4, 5, 6] rfl)
      · exact absurd ((lg_cmp_eq _ _).mpr (hf1 b2)) b3
  · exact absurd rfl b1
set_option maxHeartbeats 8000000 in
set_option maxRecDepth 100000 in
theorem law_tick {p : Program} {l : Launch} {e : Env} {s : State} {m : MethodId} {below : List Frame} {meth : Method} {c : Code} {G : zG} {b len : Nat} {xs : Nat → Int32} (C0 : zLC p l s m meth c b len xs G) {x z L n mb xr zr : Nat} (lay : zLay x z L n mb xr zr) {st : zSt} (hok : zOK n st) {i : Nat} (hi : i + 3 ≤ len) {M : zw_M} {H : Heap} {locs : List Loc} {cells slots : Nat} {Q : State → Prop} (hce : cells + 960 ≤ 601024) (hsl : slots + 3360 ≤ 7293000) (hI : zIV G x z L n mb xr zr s.heap st M H locs) {ls : Array Slot} (hl : lv_has ls 8 [(0, .ref b), (1, .ref x), (2, .ref xr), (3, .ref L), (4, .int (nI i))])
    (kk : ∀ (M1 : zw_M) (H1 : Heap) (locs1 : List Loc) (st1 : zSt) (ls1 : Array Slot), zOK n st1 → zIV G x z L n mb xr zr s.heap st1 M1 H1 locs1 → lv_has ls1 8 [(0, .ref b), (1, .ref x), (2, .ref xr), (3, .ref L), (4, .int (nI i))] → W p l e room_1 s m #[Value.ref b] below meth c H1 locs1 (cells + 960) (slots + 3360) Q (F0 m 783 ls1 [])) : W p l e room_1 s m #[Value.ref b] below meth c H locs cells slots Q (F0 m 196 ls []) := by
  obtain ⟨hx, hb, hr, hml, hown, hz, hX, hbl, hlocks, hEN, hlen, hflag⟩ := C0
  have hE := hEN.1
  obtain ⟨y1, y2, y3, y4, y5, y6, y7⟩ := lay
  obtain ⟨hH, hS, hLs, ⟨qs, g, hCR⟩, ⟨th, pt, Y, hRR⟩, f0, hML⟩ := hI
  have hK := hE.1
  have hbA : ¬ zw_A s.heap.size b := Nat.not_le.mpr hbl
  obtain ⟨k, rb, st1, hk3, hok1, hC, hF⟩ := mk_tick l hflag G s.heap.size x z L n mb xr zr st y5 y6 y7 hok (xs (i + 1))
  refine lv_aload_n hx hb dL_law_196 rfl (lv_at hl 1 rfl) ?_
  refine lv_aload_n hx hb dL_law_197 rfl (lv_at hl 0 rfl) ?_
  refine lv_iload hx hb dL_law_198 (lv_at hl 4 rfl) ?_
  refine lv_iconst (v := nI 1) hx hb dL_law_200 (by decide) ?_
  refine lv_iadd hx hb dL_law_201 ?_
  refine zw_ti (nI_add _ _) ?_
  refine va_sld hx hb hX hbl hbA hS (vp_in_nI (show (i + 1) < len by omega) (by omega)) dL_law_202 ?_
  refine zw_ti (congrArg xs (nI_clamp (show (i + 1) < 2 ^ 31 by omega))) ?_
  refine lv_aload_n hx hb dL_law_203 rfl (lv_at hl 3 rfl) ?_
  refine zr_SW (As := [.ref x, .int (xs (i + 1)), .ref L]) (rest := []) (mc := 960) (ms := 3360) ⟨hx, hb, hml, hown, hz⟩ (hC M _ qs g f0 hCR hML (by omega) hLs) (zt_W zm_262) rfl rfl rfl (hz _ zm_0) (hz _ zm_260) (hz _ zm_261) (show _ ∧ _ ∧ _ = some 3 from by decide +kernel) ⟨Nat.le_of_ble_eq_true rfl, Nat.le_of_ble_eq_true rfl⟩ zEN_blind (zEN_at hEN hS) hH hS hl.1 rfl (Nat.le_of_ble_eq_true rfl) dL_law_204 ⟨hce, hsl⟩ (fun r1 M1 sz1 H1 L1 hp hH hz1 hz2 hS => ?_)
  obtain ⟨hr1, ⟨qs1, g1, hCR⟩, hfm, hs1, f1, hML, hf1⟩ := hp
  subst hr1
  have hRR : zRR G M1 xr zr n mb st th pt Y := hRR.to2 (fun q9 e9 h9 h8 => (hfm q9 (by omega) (by omega) (Or.inr (by omega)) (by omega)).trans h8)
  have hLs : L < H1.size := by omega
  refine lv_istore (lv' := [(5, .int (nI k)), (0, .ref b), (1, .ref x), (2, .ref xr), (3, .ref L), (4, .int (nI i))]) hx hb dL_law_207 hl (by decide) rfl (fun ls hl => ?_)
  refine lv_aload_n hx hb dL_law_209 rfl (lv_at hl 3 rfl) ?_
  refine lv_aload_n hx hb dL_law_210 rfl (lv_at hl 1 rfl) ?_
  refine lv_iload hx hb dL_law_211 (lv_at hl 5 rfl) ?_
  refine lv_iconst (v := nI 1) hx hb dL_law_213 (by decide) ?_
  refine lv_iadd hx hb dL_law_214 ?_
  refine zw_ti (nI_add _ _) ?_
  refine va_sld hx hb hX hbl hbA hS (vp_in_nI (show (i + 1) < len by omega) (by omega)) dL_law_215 ?_
  refine zw_ti (congrArg xs (nI_clamp (show (i + 1) < 2 ^ 31 by omega))) ?_
  refine zr_Vi (As := [.int (xs (i + 1))]) (rest := []) (q := (RR, TR, 22)) (mc := 0) (ms := 0) ⟨hx, hb, hml, hown, hz⟩ (hF M1 _ th pt Y hRR) (zt_V zm_471 zm_472 zm_473 zm_3 zm_474) rfl rfl rfl (show _ ∧ _ ∧ _ ∧ _ = some 1 from by decide +kernel) ⟨Nat.le_of_ble_eq_true rfl, Nat.le_of_ble_eq_true rfl⟩ zE_blind (zE_at hE hS) hH hK hRR.obj rfl rfl hS hl.1 rfl (Nat.le_of_ble_eq_true rfl) dL_law_216 ⟨(show cells + 960 + 0 ≤ 601024 by omega), (show slots + 3360 + 0 ≤ 7293000 by omega)⟩ (fun r2 M2 sz2 H2 L2 hp hH hz3 hz4 hS => ?_)
  obtain ⟨hr2, ⟨pt2, Y2, hRR⟩, hrf, hs2⟩ := hp
  subst hr2
  have hCR : zCR G M2 x z L n mb st1 qs1 g1 := hCR.to (fun q9 e9 h9 h8 => (hrf q9 (by omega) (by omega)).trans h8)
  have hML : M2 L = some (.inl (G.2.1 1, 1, .inr (.inl f1))) := (hrf L (by omega) (by omega)).trans hML
  have hLs : L < H2.size := by omega
  refine lv_istore (lv' := [(6, .int r2), (5, .int (nI k)), (0, .ref b), (1, .ref x), (2, .ref xr), (3, .ref L), (4, .int (nI i))]) hx hb dL_law_219 hl (by decide) rfl (fun ls hl => ?_)
  refine lv_aload_n hx hb dL_law_221 rfl (lv_at hl 4 rfl) ?_
  refine zr_V (As := []) (rest := []) (q := (RR, TR, 22)) ⟨hx, hb, hml, hown, hz⟩ (kR_thrown l G s.heap.size M2 xr zr n mb st1 k pt2 Y2 y6 hRR) (zt_V zm_455 zm_456 zm_457 zm_3 zm_458) rfl rfl rfl (show _ ∧ _ ∧ _ ∧ _ = some 0 from by decide +kernel) ⟨Nat.le_of_ble_eq_true rfl, Nat.le_of_ble_eq_true rfl⟩ zE_blind (zE_at hE hS) hH hK hRR.obj rfl rfl hl.1 rfl (Nat.le_of_ble_eq_true rfl) dL_law_222 ⟨(show cells + 960 + 0 ≤ 601024 by omega), (show slots + 3360 + 0 ≤ 7293000 by omega)⟩ ?_
  refine lv_iload hx hb dL_law_225 (lv_at hl 1 rfl) ?_
  refine zc_eq (tgt := 232) hx hb dL_law_227 (by decide) (by omega) (by omega) (fun b1 => ?_) (fun b1 => ?_)
  · refine lv_iload hx hb dL_law_232 (lv_at hl 1 rfl) ?_
    refine zc_ne0 (tgt := 249) hx hb dL_law_234 (by decide) (by omega) (fun b2 => ?_) (fun b2 => ?_)
    · refine lv_goto (tgt := 783) hx hb dL_law_249 (by decide) ?_
      refine W.widen (k := cells + 960) (n := slots + 3360) (by omega) (by omega) ?_
      exact kk M2 _ _ st1 ls hok1 ⟨hH, hS, hLs, ⟨_, _, hCR⟩, ⟨_, _, _, hRR⟩, f1, hML⟩ (lv_sub hl [2, 3, 4, 5, 6] rfl)
    · refine lv_aload_n hx hb dL_law_237 rfl (lv_at hl 5 rfl) ?_
      refine lv_iconst (v := nI 0) hx hb dL_law_238 (by decide) ?_
      refine zw_lald hx hb hK hH 1 hML rfl (0) rfl (by decide) (by decide) dL_law_239 ?_
      refine lv_iload hx hb dL_law_240 (lv_at hl 0 rfl) ?_
      refine lv_i2l hx hb dL_law_242 rfl ?_
      refine W.lcmp hx hb dL_law_243 ?_
      refine lv_if_eq (tgt := 249) hx hb dL_law_244 (by decide) (fun b3 => ?_) (fun b3 => ?_)
      · refine lv_goto (tgt := 783) hx hb dL_law_249 (by decide) ?_
        refine W.widen (k := cells + 960) (n := slots + 3360) (by omega) (by omega) ?_
        exact kk M2 _ _ st1 ls hok1 ⟨hH, hS, hLs, ⟨_, _, hCR⟩, ⟨_, _, _, hRR⟩, f1, hML⟩ (lv_sub hl [2, 3, 4, 5, 6] rfl)
      · exact absurd ((lg_cmp_eq _ _).mpr (hf1 b2)) b3
  · exact absurd rfl b1
set_option maxHeartbeats 8000000 in
set_option maxRecDepth 100000 in
theorem law_deliver {p : Program} {l : Launch} {e : Env} {s : State} {m : MethodId} {below : List Frame} {meth : Method} {c : Code} {G : zG} {b len : Nat} {xs : Nat → Int32} (C0 : zLC p l s m meth c b len xs G) {x z L n mb xr zr : Nat} (lay : zLay x z L n mb xr zr) {st : zSt} (hok : zOK n st) {i : Nat} (hi : i + 3 ≤ len) {M : zw_M} {H : Heap} {locs : List Loc} {cells slots : Nat} {Q : State → Prop} (hce : cells + 960 ≤ 601024) (hsl : slots + 3360 ≤ 7293000) (hI : zIV G x z L n mb xr zr s.heap st M H locs) {ls : Array Slot} (hl : lv_has ls 8 [(0, .ref b), (1, .ref x), (2, .ref xr), (3, .ref L), (4, .int (nI i))])
    (kk : ∀ (M1 : zw_M) (H1 : Heap) (locs1 : List Loc) (st1 : zSt) (ls1 : Array Slot), zOK n st1 → zIV G x z L n mb xr zr s.heap st1 M1 H1 locs1 → lv_has ls1 8 [(0, .ref b), (1, .ref x), (2, .ref xr), (3, .ref L), (4, .int (nI i))] → W p l e room_1 s m #[Value.ref b] below meth c H1 locs1 (cells + 960) (slots + 3360) Q (F0 m 783 ls1 [])) : W p l e room_1 s m #[Value.ref b] below meth c H locs cells slots Q (F0 m 252 ls []) := by
  obtain ⟨hx, hb, hr, hml, hown, hz, hX, hbl, hlocks, hEN, hlen, hflag⟩ := C0
  have hE := hEN.1
  obtain ⟨y1, y2, y3, y4, y5, y6, y7⟩ := lay
  obtain ⟨hH, hS, hLs, ⟨qs, g, hCR⟩, ⟨th, pt, Y, hRR⟩, f0, hML⟩ := hI
  have hK := hE.1
  have hbA : ¬ zw_A s.heap.size b := Nat.not_le.mpr hbl
  obtain ⟨k, rb, st1, hk3, hok1, hC, hF⟩ := mk_deliver l hflag G s.heap.size x z L n mb xr zr st y5 y6 y7 hok (xs (i + 1))
  refine lv_aload_n hx hb dL_law_252 rfl (lv_at hl 1 rfl) ?_
  refine lv_aload_n hx hb dL_law_253 rfl (lv_at hl 0 rfl) ?_
  refine lv_iload hx hb dL_law_254 (lv_at hl 4 rfl) ?_
  refine lv_iconst (v := nI 1) hx hb dL_law_256 (by decide) ?_
  refine lv_iadd hx hb dL_law_257 ?_
  refine zw_ti (nI_add _ _) ?_
  refine va_sld hx hb hX hbl hbA hS (vp_in_nI (show (i + 1) < len by omega) (by omega)) dL_law_258 ?_
  refine zw_ti (congrArg xs (nI_clamp (show (i + 1) < 2 ^ 31 by omega))) ?_
  refine lv_aload_n hx hb dL_law_259 rfl (lv_at hl 3 rfl) ?_
  refine zr_SW (As := [.ref x, .int (xs (i + 1)), .ref L]) (rest := []) (mc := 960) (ms := 3360) ⟨hx, hb, hml, hown, hz⟩ (hC M _ qs g f0 hCR hML (by omega) hLs) (zt_W zm_314) rfl rfl rfl (hz _ zm_0) (hz _ zm_312) (hz _ zm_313) (show _ ∧ _ ∧ _ = some 3 from by decide +kernel) ⟨Nat.le_of_ble_eq_true rfl, Nat.le_of_ble_eq_true rfl⟩ zEN_blind (zEN_at hEN hS) hH hS hl.1 rfl (Nat.le_of_ble_eq_true rfl) dL_law_260 ⟨hce, hsl⟩ (fun r1 M1 sz1 H1 L1 hp hH hz1 hz2 hS => ?_)
  obtain ⟨hr1, ⟨qs1, g1, hCR⟩, hfm, hs1, f1, hML, hf1⟩ := hp
  subst hr1
  have hRR : zRR G M1 xr zr n mb st th pt Y := hRR.to2 (fun q9 e9 h9 h8 => (hfm q9 (by omega) (by omega) (Or.inr (by omega)) (by omega)).trans h8)
  have hLs : L < H1.size := by omega
  refine lv_istore (lv' := [(5, .int (nI k)), (0, .ref b), (1, .ref x), (2, .ref xr), (3, .ref L), (4, .int (nI i))]) hx hb dL_law_263 hl (by decide) rfl (fun ls hl => ?_)
  refine lv_aload_n hx hb dL_law_265 rfl (lv_at hl 3 rfl) ?_
  refine lv_aload_n hx hb dL_law_266 rfl (lv_at hl 1 rfl) ?_
  refine lv_iload hx hb dL_law_267 (lv_at hl 5 rfl) ?_
  refine lv_iconst (v := nI 1) hx hb dL_law_269 (by decide) ?_
  refine lv_iadd hx hb dL_law_270 ?_
  refine zw_ti (nI_add _ _) ?_
  refine va_sld hx hb hX hbl hbA hS (vp_in_nI (show (i + 1) < len by omega) (by omega)) dL_law_271 ?_
  refine zw_ti (congrArg xs (nI_clamp (show (i + 1) < 2 ^ 31 by omega))) ?_
  refine zr_Vi (As := [.int (xs (i + 1))]) (rest := []) (q := (RR, TR, 22)) (mc := 0) (ms := 0) ⟨hx, hb, hml, hown, hz⟩ (hF M1 _ th pt Y hRR) (zt_V zm_487 zm_488 zm_489 zm_3 zm_490) rfl rfl rfl (show _ ∧ _ ∧ _ ∧ _ = some 1 from by decide +kernel) ⟨Nat.le_of_ble_eq_true rfl, Nat.le_of_ble_eq_true rfl⟩ zE_blind (zE_at hE hS) hH hK hRR.obj rfl rfl hS hl.1 rfl (Nat.le_of_ble_eq_true rfl) dL_law_272 ⟨(show cells + 960 + 0 ≤ 601024 by omega), (show slots + 3360 + 0 ≤ 7293000 by omega)⟩ (fun r2 M2 sz2 H2 L2 hp hH hz3 hz4 hS => ?_)
  obtain ⟨hr2, ⟨pt2, Y2, hRR⟩, hrf, hs2⟩ := hp
  subst hr2
  have hCR : zCR G M2 x z L n mb st1 qs1 g1 := hCR.to (fun q9 e9 h9 h8 => (hrf q9 (by omega) (by omega)).trans h8)
  have hML : M2 L = some (.inl (G.2.1 1, 1, .inr (.inl f1))) := (hrf L (by omega) (by omega)).trans hML
  have hLs : L < H2.size := by omega
  refine lv_istore (lv' := [(6, .int r2), (5, .int (nI k)), (0, .ref b), (1, .ref x), (2, .ref xr), (3, .ref L), (4, .int (nI i))]) hx hb dL_law_275 hl (by decide) rfl (fun ls hl => ?_)
  refine lv_aload_n hx hb dL_law_277 rfl (lv_at hl 4 rfl) ?_
  refine zr_V (As := []) (rest := []) (q := (RR, TR, 22)) ⟨hx, hb, hml, hown, hz⟩ (kR_thrown l G s.heap.size M2 xr zr n mb st1 k pt2 Y2 y6 hRR) (zt_V zm_455 zm_456 zm_457 zm_3 zm_458) rfl rfl rfl (show _ ∧ _ ∧ _ ∧ _ = some 0 from by decide +kernel) ⟨Nat.le_of_ble_eq_true rfl, Nat.le_of_ble_eq_true rfl⟩ zE_blind (zE_at hE hS) hH hK hRR.obj rfl rfl hl.1 rfl (Nat.le_of_ble_eq_true rfl) dL_law_278 ⟨(show cells + 960 + 0 ≤ 601024 by omega), (show slots + 3360 + 0 ≤ 7293000 by omega)⟩ ?_
  refine lv_iload hx hb dL_law_281 (lv_at hl 1 rfl) ?_
  refine zc_eq (tgt := 288) hx hb dL_law_283 (by decide) (by omega) (by omega) (fun b1 => ?_) (fun b1 => ?_)
  · refine lv_iload hx hb dL_law_288 (lv_at hl 1 rfl) ?_
    refine zc_ne0 (tgt := 305) hx hb dL_law_290 (by decide) (by omega) (fun b2 => ?_) (fun b2 => ?_)
    · refine lv_goto (tgt := 783) hx hb dL_law_305 (by decide) ?_
      refine W.widen (k := cells + 960) (n := slots + 3360) (by omega) (by omega) ?_
      exact kk M2 _ _ st1 ls hok1 ⟨hH, hS, hLs, ⟨_, _, hCR⟩, ⟨_, _, _, hRR⟩, f1, hML⟩ (lv_sub hl [2, 3, 4, 5, 6] rfl)
    · refine lv_aload_n hx hb dL_law_293 rfl (lv_at hl 5 rfl) ?_
      refine lv_iconst (v := nI 0) hx hb dL_law_294 (by decide) ?_
      refine zw_lald hx hb hK hH 1 hML rfl (0) rfl (by decide) (by decide) dL_law_295 ?_
      refine lv_iload hx hb dL_law_296 (lv_at hl 0 rfl) ?_
      refine lv_i2l hx hb dL_law_298 rfl ?_
      refine W.lcmp hx hb dL_law_299 ?_
      refine lv_if_eq (tgt := 305) hx hb dL_law_300 (by decide) (fun b3 => ?_) (fun b3 => ?_)
      · refine lv_goto (tgt := 783) hx hb dL_law_305 (by decide) ?_
        refine W.widen (k := cells + 960) (n := slots + 3360) (by omega) (by omega) ?_
        exact kk M2 _ _ st1 ls hok1 ⟨hH, hS, hLs, ⟨_, _, hCR⟩, ⟨_, _, _, hRR⟩, f1, hML⟩ (lv_sub hl [2, 3, 4, 5, 6] rfl)
      · exact absurd ((lg_cmp_eq _ _).mpr (hf1 b2)) b3
  · exact absurd rfl b1
set_option maxHeartbeats 8000000 in
set_option maxRecDepth 100000 in
theorem law_lose {p : Program} {l : Launch} {e : Env} {s : State} {m : MethodId} {below : List Frame} {meth : Method} {c : Code} {G : zG} {b len : Nat} {xs : Nat → Int32} (C0 : zLC p l s m meth c b len xs G) {x z L n mb xr zr : Nat} (lay : zLay x z L n mb xr zr) {st : zSt} (hok : zOK n st) {i : Nat} (hi : i + 3 ≤ len) {M : zw_M} {H : Heap} {locs : List Loc} {cells slots : Nat} {Q : State → Prop} (hce : cells + 960 ≤ 601024) (hsl : slots + 3360 ≤ 7293000) (hI : zIV G x z L n mb xr zr s.heap st M H locs) {ls : Array Slot} (hl : lv_has ls 8 [(0, .ref b), (1, .ref x), (2, .ref xr), (3, .ref L), (4, .int (nI i))])
    (kk : ∀ (M1 : zw_M) (H1 : Heap) (locs1 : List Loc) (st1 : zSt) (ls1 : Array Slot), zOK n st1 → zIV G x z L n mb xr zr s.heap st1 M1 H1 locs1 → lv_has ls1 8 [(0, .ref b), (1, .ref x), (2, .ref xr), (3, .ref L), (4, .int (nI i))] → W p l e room_1 s m #[Value.ref b] below meth c H1 locs1 (cells + 960) (slots + 3360) Q (F0 m 783 ls1 [])) : W p l e room_1 s m #[Value.ref b] below meth c H locs cells slots Q (F0 m 308 ls []) := by
  obtain ⟨hx, hb, hr, hml, hown, hz, hX, hbl, hlocks, hEN, hlen, hflag⟩ := C0
  have hE := hEN.1
  obtain ⟨y1, y2, y3, y4, y5, y6, y7⟩ := lay
  obtain ⟨hH, hS, hLs, ⟨qs, g, hCR⟩, ⟨th, pt, Y, hRR⟩, f0, hML⟩ := hI
  have hK := hE.1
  have hbA : ¬ zw_A s.heap.size b := Nat.not_le.mpr hbl
  obtain ⟨rb, st1, hok1, hC, hF⟩ := mk_lose l hflag G s.heap.size x z L n mb xr zr st y5 y6 y7 hok (xs (i + 1))
  refine lv_aload_n hx hb dL_law_308 rfl (lv_at hl 1 rfl) ?_
  refine lv_aload_n hx hb dL_law_309 rfl (lv_at hl 0 rfl) ?_
  refine lv_iload hx hb dL_law_310 (lv_at hl 4 rfl) ?_
  refine lv_iconst (v := nI 1) hx hb dL_law_312 (by decide) ?_
  refine lv_iadd hx hb dL_law_313 ?_
  refine zw_ti (nI_add _ _) ?_
  refine va_sld hx hb hX hbl hbA hS (vp_in_nI (show (i + 1) < len by omega) (by omega)) dL_law_314 ?_
  refine zw_ti (congrArg xs (nI_clamp (show (i + 1) < 2 ^ 31 by omega))) ?_
  refine zr_Vi (As := [.int (xs (i + 1))]) (rest := []) (q := (RC, TC, 14)) (mc := 0) (ms := 0) ⟨hx, hb, hml, hown, hz⟩ (hC M _ qs g hCR) (zt_V zm_77 zm_78 zm_79 zm_1 zm_80) rfl rfl rfl (show _ ∧ _ ∧ _ ∧ _ = some 1 from by decide +kernel) ⟨Nat.le_of_ble_eq_true rfl, Nat.le_of_ble_eq_true rfl⟩ zE_blind (zE_at hE hS) hH hK hCR.obj rfl rfl hS hl.1 rfl (Nat.le_of_ble_eq_true rfl) dL_law_315 ⟨(show cells + 0 ≤ 601024 by omega), (show slots + 0 ≤ 7293000 by omega)⟩ (fun r1 M1 sz1 H1 L1 hp hH hz1 hz2 hS => ?_)
  obtain ⟨hr1, ⟨qs1, g1, hCR⟩, hfm, hs1⟩ := hp
  subst hr1
  have hRR : zRR G M1 xr zr n mb st th pt Y := hRR.to2 (fun q9 e9 h9 h8 => (hfm q9 (by omega) (Or.inr (by omega)) (by omega)).trans h8)
  have hML : M1 L = some (.inl (G.2.1 1, 1, .inr (.inl f0))) := (hfm L (by omega) (Or.inr (by omega)) hLs).trans hML
  have hLs : L < H1.size := by omega
  refine lv_aload_n hx hb dL_law_318 rfl (lv_at hl 2 rfl) ?_
  refine lv_aload_n hx hb dL_law_319 rfl (lv_at hl 0 rfl) ?_
  refine lv_iload hx hb dL_law_320 (lv_at hl 4 rfl) ?_
  refine lv_iconst (v := nI 1) hx hb dL_law_322 (by decide) ?_
  refine lv_iadd hx hb dL_law_323 ?_
  refine zw_ti (nI_add _ _) ?_
  refine va_sld hx hb hX hbl hbA hS (vp_in_nI (show (i + 1) < len by omega) (by omega)) dL_law_324 ?_
  refine zw_ti (congrArg xs (nI_clamp (show (i + 1) < 2 ^ 31 by omega))) ?_
  refine zr_Vi (As := [.int (xs (i + 1))]) (rest := [.int r1]) (q := (RR, TR, 22)) (mc := 0) (ms := 0) ⟨hx, hb, hml, hown, hz⟩ (hF M1 _ th pt Y hRR) (zt_V zm_512 zm_513 zm_514 zm_3 zm_515) rfl rfl rfl (show _ ∧ _ ∧ _ ∧ _ = some 1 from by decide +kernel) ⟨Nat.le_of_ble_eq_true rfl, Nat.le_of_ble_eq_true rfl⟩ zE_blind (zE_at hE hS) hH hK hRR.obj rfl rfl hS hl.1 rfl (Nat.le_of_ble_eq_true rfl) dL_law_325 ⟨(show cells + 0 + 0 ≤ 601024 by omega), (show slots + 0 + 0 ≤ 7293000 by omega)⟩ (fun r2 M2 sz2 H2 L2 hp hH hz3 hz4 hS => ?_)
  obtain ⟨hr2, ⟨pt2, Y2, hRR⟩, hrf, hs2⟩ := hp
  subst hr2
  have hCR : zCR G M2 x z L n mb st1 qs1 g1 := hCR.to (fun q9 e9 h9 h8 => (hrf q9 (by omega) (by omega)).trans h8)
  have hML : M2 L = some (.inl (G.2.1 1, 1, .inr (.inl f0))) := (hrf L (by omega) (by omega)).trans hML
  have hLs : L < H2.size := by omega
  refine lv_icmp_eq (tgt := 783) hx hb dL_law_328 (by decide) (fun b3 => ?_) (fun b3 => ?_)
  · refine W.widen (k := cells + 960) (n := slots + 3360) (by omega) (by omega) ?_
    exact kk M2 _ _ st1 ls hok1 ⟨hH, hS, hLs, ⟨_, _, hCR⟩, ⟨_, _, _, hRR⟩, f0, hML⟩ (lv_sub hl [0, 1, 2, 3, 4] rfl)
  · exact absurd rfl b3
set_option maxHeartbeats 8000000 in
set_option maxRecDepth 100000 in
theorem law_twice {p : Program} {l : Launch} {e : Env} {s : State} {m : MethodId} {below : List Frame} {meth : Method} {c : Code} {G : zG} {b len : Nat} {xs : Nat → Int32} (C0 : zLC p l s m meth c b len xs G) {x z L n mb xr zr : Nat} (lay : zLay x z L n mb xr zr) {st : zSt} (hok : zOK n st) {i : Nat} (hi : i + 3 ≤ len) {M : zw_M} {H : Heap} {locs : List Loc} {cells slots : Nat} {Q : State → Prop} (hce : cells + 960 ≤ 601024) (hsl : slots + 3360 ≤ 7293000) (hI : zIV G x z L n mb xr zr s.heap st M H locs) {ls : Array Slot} (hl : lv_has ls 8 [(0, .ref b), (1, .ref x), (2, .ref xr), (3, .ref L), (4, .int (nI i))])
    (kk : ∀ (M1 : zw_M) (H1 : Heap) (locs1 : List Loc) (st1 : zSt) (ls1 : Array Slot), zOK n st1 → zIV G x z L n mb xr zr s.heap st1 M1 H1 locs1 → lv_has ls1 8 [(0, .ref b), (1, .ref x), (2, .ref xr), (3, .ref L), (4, .int (nI i))] → W p l e room_1 s m #[Value.ref b] below meth c H1 locs1 (cells + 960) (slots + 3360) Q (F0 m 783 ls1 [])) : W p l e room_1 s m #[Value.ref b] below meth c H locs cells slots Q (F0 m 333 ls []) := by
  obtain ⟨hx, hb, hr, hml, hown, hz, hX, hbl, hlocks, hEN, hlen, hflag⟩ := C0
  have hE := hEN.1
  obtain ⟨y1, y2, y3, y4, y5, y6, y7⟩ := lay
  obtain ⟨hH, hS, hLs, ⟨qs, g, hCR⟩, ⟨th, pt, Y, hRR⟩, f0, hML⟩ := hI
  have hK := hE.1
  have hbA : ¬ zw_A s.heap.size b := Nat.not_le.mpr hbl
  obtain ⟨k, rb, st1, hk3, hok1, hC, hF⟩ := mk_twice l hflag G s.heap.size x z L n mb xr zr st y5 y6 y7 hok (xs (i + 1))
  refine lv_aload_n hx hb dL_law_333 rfl (lv_at hl 1 rfl) ?_
  refine lv_aload_n hx hb dL_law_334 rfl (lv_at hl 0 rfl) ?_
  refine lv_iload hx hb dL_law_335 (lv_at hl 4 rfl) ?_
  refine lv_iconst (v := nI 1) hx hb dL_law_337 (by decide) ?_
  refine lv_iadd hx hb dL_law_338 ?_
  refine zw_ti (nI_add _ _) ?_
  refine va_sld hx hb hX hbl hbA hS (vp_in_nI (show (i + 1) < len by omega) (by omega)) dL_law_339 ?_
  refine zw_ti (congrArg xs (nI_clamp (show (i + 1) < 2 ^ 31 by omega))) ?_
  refine lv_aload_n hx hb dL_law_340 rfl (lv_at hl 3 rfl) ?_
  refine zr_SW (As := [.ref x, .int (xs (i + 1)), .ref L]) (rest := []) (mc := 960) (ms := 3360) ⟨hx, hb, hml, hown, hz⟩ (hC M _ qs g f0 hCR hML (by omega) hLs) (zt_W zm_354) rfl rfl rfl (hz _ zm_0) (hz _ zm_352) (hz _ zm_353) (show _ ∧ _ ∧ _ = some 3 from by decide +kernel) ⟨Nat.le_of_ble_eq_true rfl, Nat.le_of_ble_eq_true rfl⟩ zEN_blind (zEN_at hEN hS) hH hS hl.1 rfl (Nat.le_of_ble_eq_true rfl) dL_law_341 ⟨hce, hsl⟩ (fun r1 M1 sz1 H1 L1 hp hH hz1 hz2 hS => ?_)
  obtain ⟨hr1, ⟨qs1, g1, hCR⟩, hfm, hs1, f1, hML, hf1⟩ := hp
  subst hr1
  have hRR : zRR G M1 xr zr n mb st th pt Y := hRR.to2 (fun q9 e9 h9 h8 => (hfm q9 (by omega) (by omega) (Or.inr (by omega)) (by omega)).trans h8)
  have hLs : L < H1.size := by omega
  refine lv_istore (lv' := [(5, .int (nI k)), (0, .ref b), (1, .ref x), (2, .ref xr), (3, .ref L), (4, .int (nI i))]) hx hb dL_law_344 hl (by decide) rfl (fun ls hl => ?_)
  refine lv_aload_n hx hb dL_law_346 rfl (lv_at hl 3 rfl) ?_
  refine lv_aload_n hx hb dL_law_347 rfl (lv_at hl 1 rfl) ?_
  refine lv_iload hx hb dL_law_348 (lv_at hl 5 rfl) ?_
  refine lv_iconst (v := nI 1) hx hb dL_law_350 (by decide) ?_
  refine lv_iadd hx hb dL_law_351 ?_
  refine zw_ti (nI_add _ _) ?_
  refine va_sld hx hb hX hbl hbA hS (vp_in_nI (show (i + 1) < len by omega) (by omega)) dL_law_352 ?_
  refine zw_ti (congrArg xs (nI_clamp (show (i + 1) < 2 ^ 31 by omega))) ?_
  refine zr_Vi (As := [.int (xs (i + 1))]) (rest := []) (q := (RR, TR, 22)) (mc := 0) (ms := 0) ⟨hx, hb, hml, hown, hz⟩ (hF M1 _ th pt Y hRR) (zt_V zm_516 zm_517 zm_518 zm_3 zm_519) rfl rfl rfl (show _ ∧ _ ∧ _ ∧ _ = some 1 from by decide +kernel) ⟨Nat.le_of_ble_eq_true rfl, Nat.le_of_ble_eq_true rfl⟩ zE_blind (zE_at hE hS) hH hK hRR.obj rfl rfl hS hl.1 rfl (Nat.le_of_ble_eq_true rfl) dL_law_353 ⟨(show cells + 960 + 0 ≤ 601024 by omega), (show slots + 3360 + 0 ≤ 7293000 by omega)⟩ (fun r2 M2 sz2 H2 L2 hp hH hz3 hz4 hS => ?_)
  obtain ⟨hr2, ⟨pt2, Y2, hRR⟩, hrf, hs2⟩ := hp
  subst hr2
  have hCR : zCR G M2 x z L n mb st1 qs1 g1 := hCR.to (fun q9 e9 h9 h8 => (hrf q9 (by omega) (by omega)).trans h8)
  have hML : M2 L = some (.inl (G.2.1 1, 1, .inr (.inl f1))) := (hrf L (by omega) (by omega)).trans hML
  have hLs : L < H2.size := by omega
  refine lv_istore (lv' := [(6, .int r2), (5, .int (nI k)), (0, .ref b), (1, .ref x), (2, .ref xr), (3, .ref L), (4, .int (nI i))]) hx hb dL_law_356 hl (by decide) rfl (fun ls hl => ?_)
  refine lv_aload_n hx hb dL_law_358 rfl (lv_at hl 4 rfl) ?_
  refine zr_V (As := []) (rest := []) (q := (RR, TR, 22)) ⟨hx, hb, hml, hown, hz⟩ (kR_thrown l G s.heap.size M2 xr zr n mb st1 k pt2 Y2 y6 hRR) (zt_V zm_455 zm_456 zm_457 zm_3 zm_458) rfl rfl rfl (show _ ∧ _ ∧ _ ∧ _ = some 0 from by decide +kernel) ⟨Nat.le_of_ble_eq_true rfl, Nat.le_of_ble_eq_true rfl⟩ zE_blind (zE_at hE hS) hH hK hRR.obj rfl rfl hl.1 rfl (Nat.le_of_ble_eq_true rfl) dL_law_359 ⟨(show cells + 960 + 0 ≤ 601024 by omega), (show slots + 3360 + 0 ≤ 7293000 by omega)⟩ ?_
  refine lv_iload hx hb dL_law_362 (lv_at hl 1 rfl) ?_
  refine zc_eq (tgt := 369) hx hb dL_law_364 (by decide) (by omega) (by omega) (fun b1 => ?_) (fun b1 => ?_)
  · refine lv_iload hx hb dL_law_369 (lv_at hl 1 rfl) ?_
    refine zc_ne0 (tgt := 386) hx hb dL_law_371 (by decide) (by omega) (fun b2 => ?_) (fun b2 => ?_)
    · refine lv_goto (tgt := 783) hx hb dL_law_386 (by decide) ?_
      refine W.widen (k := cells + 960) (n := slots + 3360) (by omega) (by omega) ?_
      exact kk M2 _ _ st1 ls hok1 ⟨hH, hS, hLs, ⟨_, _, hCR⟩, ⟨_, _, _, hRR⟩, f1, hML⟩ (lv_sub hl [2, 3, 4, 5, 6] rfl)
    · refine lv_aload_n hx hb dL_law_374 rfl (lv_at hl 5 rfl) ?_
      refine lv_iconst (v := nI 0) hx hb dL_law_375 (by decide) ?_
      refine zw_lald hx hb hK hH 1 hML rfl (0) rfl (by decide) (by decide) dL_law_376 ?_
      refine lv_iload hx hb dL_law_377 (lv_at hl 0 rfl) ?_
      refine lv_i2l hx hb dL_law_379 rfl ?_
      refine W.lcmp hx hb dL_law_380 ?_
      refine lv_if_eq (tgt := 386) hx hb dL_law_381 (by decide) (fun b3 => ?_) (fun b3 => ?_)
      · refine lv_goto (tgt := 783) hx hb dL_law_386 (by decide) ?_
        refine W.widen (k := cells + 960) (n := slots + 3360) (by omega) (by omega) ?_
        exact kk M2 _ _ st1 ls hok1 ⟨hH, hS, hLs, ⟨_, _, hCR⟩, ⟨_, _, _, hRR⟩, f1, hML⟩ (lv_sub hl [2, 3, 4, 5, 6] rfl)
      · exact absurd ((lg_cmp_eq _ _).mpr (hf1 b2)) b3
  · exact absurd rfl b1
set_option maxHeartbeats 8000000 in
set_option maxRecDepth 100000 in
theorem law_up {p : Program} {l : Launch} {e : Env} {s : State} {m : MethodId} {below : List Frame} {meth : Method} {c : Code} {G : zG} {b len : Nat} {xs : Nat → Int32} (C0 : zLC p l s m meth c b len xs G) {x z L n mb xr zr : Nat} (lay : zLay x z L n mb xr zr) {st : zSt} (hok : zOK n st) {i : Nat} (hi : i + 3 ≤ len) {M : zw_M} {H : Heap} {locs : List Loc} {cells slots : Nat} {Q : State → Prop} (hce : cells + 960 ≤ 601024) (hsl : slots + 3360 ≤ 7293000) (hI : zIV G x z L n mb xr zr s.heap st M H locs) {ls : Array Slot} (hl : lv_has ls 8 [(0, .ref b), (1, .ref x), (2, .ref xr), (3, .ref L), (4, .int (nI i))])
    (kk : ∀ (M1 : zw_M) (H1 : Heap) (locs1 : List Loc) (st1 : zSt) (ls1 : Array Slot), zOK n st1 → zIV G x z L n mb xr zr s.heap st1 M1 H1 locs1 → lv_has ls1 8 [(0, .ref b), (1, .ref x), (2, .ref xr), (3, .ref L), (4, .int (nI i))] → W p l e room_1 s m #[Value.ref b] below meth c H1 locs1 (cells + 960) (slots + 3360) Q (F0 m 783 ls1 [])) : W p l e room_1 s m #[Value.ref b] below meth c H locs cells slots Q (F0 m 389 ls []) := by
  obtain ⟨hx, hb, hr, hml, hown, hz, hX, hbl, hlocks, hEN, hlen, hflag⟩ := C0
  have hE := hEN.1
  obtain ⟨y1, y2, y3, y4, y5, y6, y7⟩ := lay
  obtain ⟨hH, hS, hLs, ⟨qs, g, hCR⟩, ⟨th, pt, Y, hRR⟩, f0, hML⟩ := hI
  have hK := hE.1
  have hbA : ¬ zw_A s.heap.size b := Nat.not_le.mpr hbl
  by_cases hd : xs (i + 2) = 0
  · obtain ⟨rb, st1, hok1, hC, hF⟩ := mk_up l hflag G s.heap.size x z L n mb xr zr st y5 y6 y7 hok (xs (i + 1)) false
    refine lv_aload_n hx hb dL_law_389 rfl (lv_at hl 1 rfl) ?_
    refine lv_aload_n hx hb dL_law_390 rfl (lv_at hl 0 rfl) ?_
    refine lv_iload hx hb dL_law_391 (lv_at hl 4 rfl) ?_
    refine lv_iconst (v := nI 1) hx hb dL_law_393 (by decide) ?_
    refine lv_iadd hx hb dL_law_394 ?_
    refine zw_ti (nI_add _ _) ?_
    refine va_sld hx hb hX hbl hbA hS (vp_in_nI (show (i + 1) < len by omega) (by omega)) dL_law_395 ?_
    refine zw_ti (congrArg xs (nI_clamp (show (i + 1) < 2 ^ 31 by omega))) ?_
    refine lv_aload_n hx hb dL_law_396 rfl (lv_at hl 0 rfl) ?_
    refine lv_iload hx hb dL_law_397 (lv_at hl 4 rfl) ?_
    refine lv_iconst (v := nI 2) hx hb dL_law_399 (by decide) ?_
    refine lv_iadd hx hb dL_law_400 ?_
    refine zw_ti (nI_add _ _) ?_
    refine va_sld hx hb hX hbl hbA hS (vp_in_nI (show (i + 2) < len by omega) (by omega)) dL_law_401 ?_
    refine zw_ti (congrArg xs (nI_clamp (show (i + 2) < 2 ^ 31 by omega))) ?_
    refine lv_if_eq (tgt := 409) hx hb dL_law_402 (by decide) (fun b1 => ?_) (fun b1 => absurd hd b1)
    refine lv_iconst (v := nI 0) hx hb dL_law_409 (by decide) ?_
    refine zr_Vi (As := [.int (xs (i + 1)), .int (nI 0)]) (rest := []) (q := (RC, TC, 14)) (mc := 0) (ms := 0) ⟨hx, hb, hml, hown, hz⟩ (hC M _ qs g hCR) (zt_V zm_89 zm_90 zm_91 zm_1 zm_92) rfl rfl rfl (show _ ∧ _ ∧ _ ∧ _ = some 2 from by decide +kernel) ⟨Nat.le_of_ble_eq_true rfl, Nat.le_of_ble_eq_true rfl⟩ zE_blind (zE_at hE hS) hH hK hCR.obj rfl rfl hS hl.1 rfl (Nat.le_of_ble_eq_true rfl) dL_law_410 ⟨(show cells + 0 ≤ 601024 by omega), (show slots + 0 ≤ 7293000 by omega)⟩ (fun r1 M1 sz1 H1 L1 hp hH hz1 hz2 hS => ?_)
    obtain ⟨hr1, ⟨qs1, g1, hCR⟩, hfm, hs1⟩ := hp
    subst hr1
    have hRR : zRR G M1 xr zr n mb st th pt Y := hRR.to2 (fun q9 e9 h9 h8 => (hfm q9 (by omega) (Or.inr (by omega)) (by omega)).trans h8)
    have hML : M1 L = some (.inl (G.2.1 1, 1, .inr (.inl f0))) := (hfm L (by omega) (Or.inr (by omega)) hLs).trans hML
    have hLs : L < H1.size := by omega
    refine lv_aload_n hx hb dL_law_413 rfl (lv_at hl 2 rfl) ?_
    refine lv_aload_n hx hb dL_law_414 rfl (lv_at hl 0 rfl) ?_
    refine lv_iload hx hb dL_law_415 (lv_at hl 4 rfl) ?_
    refine lv_iconst (v := nI 1) hx hb dL_law_417 (by decide) ?_
    refine lv_iadd hx hb dL_law_418 ?_
    refine zw_ti (nI_add _ _) ?_
    refine va_sld hx hb hX hbl hbA hS (vp_in_nI (show (i + 1) < len by omega) (by omega)) dL_law_419 ?_
    refine zw_ti (congrArg xs (nI_clamp (show (i + 1) < 2 ^ 31 by omega))) ?_
    refine lv_aload_n hx hb dL_law_420 rfl (lv_at hl 0 rfl) ?_
    refine lv_iload hx hb dL_law_421 (lv_at hl 4 rfl) ?_
    refine lv_iconst (v := nI 2) hx hb dL_law_423 (by decide) ?_
    refine lv_iadd hx hb dL_law_424 ?_
    refine zw_ti (nI_add _ _) ?_
    refine va_sld hx hb hX hbl hbA hS (vp_in_nI (show (i + 2) < len by omega) (by omega)) dL_law_425 ?_
    refine zw_ti (congrArg xs (nI_clamp (show (i + 2) < 2 ^ 31 by omega))) ?_
    refine lv_if_eq (tgt := 433) hx hb dL_law_426 (by decide) (fun b1 => ?_) (fun b1 => absurd hd b1)
    refine lv_iconst (v := nI 0) hx hb dL_law_433 (by decide) ?_
    refine zr_Vi (As := [.int (xs (i + 1)), .int (nI 0)]) (rest := [.int r1]) (q := (RR, TR, 22)) (mc := 0) (ms := 0) ⟨hx, hb, hml, hown, hz⟩ (hF M1 _ th pt Y hRR) (zt_V zm_520 zm_521 zm_522 zm_3 zm_523) rfl rfl rfl (show _ ∧ _ ∧ _ ∧ _ = some 2 from by decide +kernel) ⟨Nat.le_of_ble_eq_true rfl, Nat.le_of_ble_eq_true rfl⟩ zE_blind (zE_at hE hS) hH hK hRR.obj rfl rfl hS hl.1 rfl (Nat.le_of_ble_eq_true rfl) dL_law_434 ⟨(show cells + 0 + 0 ≤ 601024 by omega), (show slots + 0 + 0 ≤ 7293000 by omega)⟩ (fun r2 M2 sz2 H2 L2 hp hH hz3 hz4 hS => ?_)
    obtain ⟨hr2, ⟨pt2, Y2, hRR⟩, hrf, hs2⟩ := hp
    subst hr2
    have hCR : zCR G M2 x z L n mb st1 qs1 g1 := hCR.to (fun q9 e9 h9 h8 => (hrf q9 (by omega) (by omega)).trans h8)
    have hML : M2 L = some (.inl (G.2.1 1, 1, .inr (.inl f0))) := (hrf L (by omega) (by omega)).trans hML
    have hLs : L < H2.size := by omega
    refine lv_icmp_eq (tgt := 783) hx hb dL_law_437 (by decide) (fun b3 => ?_) (fun b3 => ?_)
    · refine W.widen (k := cells + 960) (n := slots + 3360) (by omega) (by omega) ?_
      exact kk M2 _ _ st1 ls hok1 ⟨hH, hS, hLs, ⟨_, _, hCR⟩, ⟨_, _, _, hRR⟩, f0, hML⟩ (lv_sub hl [0, 1, 2, 3, 4] rfl)
    · exact absurd rfl b3
  · obtain ⟨rb, st1, hok1, hC, hF⟩ := mk_up l hflag G s.heap.size x z L n mb xr zr st y5 y6 y7 hok (xs (i + 1)) true
    refine lv_aload_n hx hb dL_law_389 rfl (lv_at hl 1 rfl) ?_
    refine lv_aload_n hx hb dL_law_390 rfl (lv_at hl 0 rfl) ?_
    refine lv_iload hx hb dL_law_391 (lv_at hl 4 rfl) ?_
    refine lv_iconst (v := nI 1) hx hb dL_law_393 (by decide) ?_
    refine lv_iadd hx hb dL_law_394 ?_
    refine zw_ti (nI_add _ _) ?_
    refine va_sld hx hb hX hbl hbA hS (vp_in_nI (show (i + 1) < len by omega) (by omega)) dL_law_395 ?_
    refine zw_ti (congrArg xs (nI_clamp (show (i + 1) < 2 ^ 31 by omega))) ?_
    refine lv_aload_n hx hb dL_law_396 rfl (lv_at hl 0 rfl) ?_
    refine lv_iload hx hb dL_law_397 (lv_at hl 4 rfl) ?_
    refine lv_iconst (v := nI 2) hx hb dL_law_399 (by decide) ?_
    refine lv_iadd hx hb dL_law_400 ?_
    refine zw_ti (nI_add _ _) ?_
    refine va_sld hx hb hX hbl hbA hS (vp_in_nI (show (i + 2) < len by omega) (by omega)) dL_law_401 ?_
    refine zw_ti (congrArg xs (nI_clamp (show (i + 2) < 2 ^ 31 by omega))) ?_
    refine lv_if_eq (tgt := 409) hx hb dL_law_402 (by decide) (fun b1 => absurd b1 hd) (fun b1 => ?_)
    refine lv_iconst (v := nI 1) hx hb dL_law_405 (by decide) ?_
    refine lv_goto (tgt := 410) hx hb dL_law_406 (by decide) ?_
    refine zr_Vi (As := [.int (xs (i + 1)), .int (nI 1)]) (rest := []) (q := (RC, TC, 14)) (mc := 0) (ms := 0) ⟨hx, hb, hml, hown, hz⟩ (hC M _ qs g hCR) (zt_V zm_89 zm_90 zm_91 zm_1 zm_92) rfl rfl rfl (show _ ∧ _ ∧ _ ∧ _ = some 2 from by decide +kernel) ⟨Nat.le_of_ble_eq_true rfl, Nat.le_of_ble_eq_true rfl⟩ zE_blind (zE_at hE hS) hH hK hCR.obj rfl rfl hS hl.1 rfl (Nat.le_of_ble_eq_true rfl) dL_law_410 ⟨(show cells + 0 ≤ 601024 by omega), (show slots + 0 ≤ 7293000 by omega)⟩ (fun r1 M1 sz1 H1 L1 hp hH hz1 hz2 hS => ?_)
    obtain ⟨hr1, ⟨qs1, g1, hCR⟩, hfm, hs1⟩ := hp
    subst hr1
    have hRR : zRR G M1 xr zr n mb st th pt Y := hRR.to2 (fun q9 e9 h9 h8 => (hfm q9 (by omega) (Or.inr (by omega)) (by omega)).trans h8)
    have hML : M1 L = some (.inl (G.2.1 1, 1, .inr (.inl f0))) := (hfm L (by omega) (Or.inr (by omega)) hLs).trans hML
    have hLs : L < H1.size := by omega
    refine lv_aload_n hx hb dL_law_413 rfl (lv_at hl 2 rfl) ?_
    refine lv_aload_n hx hb dL_law_414 rfl (lv_at hl 0 rfl) ?_
    refine lv_iload hx hb dL_law_415 (lv_at hl 4 rfl) ?_
    refine lv_iconst (v := nI 1) hx hb dL_law_417 (by decide) ?_
    refine lv_iadd hx hb dL_law_418 ?_
    refine zw_ti (nI_add _ _) ?_
    refine va_sld hx hb hX hbl hbA hS (vp_in_nI (show (i + 1) < len by omega) (by omega)) dL_law_419 ?_
    refine zw_ti (congrArg xs (nI_clamp (show (i + 1) < 2 ^ 31 by omega))) ?_
    refine lv_aload_n hx hb dL_law_420 rfl (lv_at hl 0 rfl) ?_
    refine lv_iload hx hb dL_law_421 (lv_at hl 4 rfl) ?_
    refine lv_iconst (v := nI 2) hx hb dL_law_423 (by decide) ?_
    refine lv_iadd hx hb dL_law_424 ?_
    refine zw_ti (nI_add _ _) ?_
    refine va_sld hx hb hX hbl hbA hS (vp_in_nI (show (i + 2) < len by omega) (by omega)) dL_law_425 ?_
    refine zw_ti (congrArg xs (nI_clamp (show (i + 2) < 2 ^ 31 by omega))) ?_
    refine lv_if_eq (tgt := 433) hx hb dL_law_426 (by decide) (fun b1 => absurd b1 hd) (fun b1 => ?_)
    refine lv_iconst (v := nI 1) hx hb dL_law_429 (by decide) ?_
    refine lv_goto (tgt := 434) hx hb dL_law_430 (by decide) ?_
    refine zr_Vi (As := [.int (xs (i + 1)), .int (nI 1)]) (rest := [.int r1]) (q := (RR, TR, 22)) (mc := 0) (ms := 0) ⟨hx, hb, hml, hown, hz⟩ (hF M1 _ th pt Y hRR) (zt_V zm_520 zm_521 zm_522 zm_3 zm_523) rfl rfl rfl (show _ ∧ _ ∧ _ ∧ _ = some 2 from by decide +kernel) ⟨Nat.le_of_ble_eq_true rfl, Nat.le_of_ble_eq_true rfl⟩ zE_blind (zE_at hE hS) hH hK hRR.obj rfl rfl hS hl.1 rfl (Nat.le_of_ble_eq_true rfl) dL_law_434 ⟨(show cells + 0 + 0 ≤ 601024 by omega), (show slots + 0 + 0 ≤ 7293000 by omega)⟩ (fun r2 M2 sz2 H2 L2 hp hH hz3 hz4 hS => ?_)
    obtain ⟨hr2, ⟨pt2, Y2, hRR⟩, hrf, hs2⟩ := hp
    subst hr2
    have hCR : zCR G M2 x z L n mb st1 qs1 g1 := hCR.to (fun q9 e9 h9 h8 => (hrf q9 (by omega) (by omega)).trans h8)
    have hML : M2 L = some (.inl (G.2.1 1, 1, .inr (.inl f0))) := (hrf L (by omega) (by omega)).trans hML
    have hLs : L < H2.size := by omega
    refine lv_icmp_eq (tgt := 783) hx hb dL_law_437 (by decide) (fun b3 => ?_) (fun b3 => ?_)
    · refine W.widen (k := cells + 960) (n := slots + 3360) (by omega) (by omega) ?_
      exact kk M2 _ _ st1 ls hok1 ⟨hH, hS, hLs, ⟨_, _, hCR⟩, ⟨_, _, _, hRR⟩, f0, hML⟩ (lv_sub hl [0, 1, 2, 3, 4] rfl)
    · exact absurd rfl b3
set_option maxHeartbeats 8000000 in
set_option maxRecDepth 100000 in
theorem law_message {p : Program} {l : Launch} {e : Env} {s : State} {m : MethodId} {below : List Frame} {meth : Method} {c : Code} {G : zG} {b len : Nat} {xs : Nat → Int32} (C0 : zLC p l s m meth c b len xs G) {x z L n mb xr zr : Nat} (lay : zLay x z L n mb xr zr) {st : zSt} (hok : zOK n st) {i : Nat} (hi : i + 3 ≤ len) {M : zw_M} {H : Heap} {locs : List Loc} {cells slots : Nat} {Q : State → Prop} (hce : cells + 960 ≤ 601024) (hsl : slots + 3360 ≤ 7293000) (hI : zIV G x z L n mb xr zr s.heap st M H locs) {ls : Array Slot} (hl : lv_has ls 8 [(0, .ref b), (1, .ref x), (2, .ref xr), (3, .ref L), (4, .int (nI i))])
    (kk : ∀ (M1 : zw_M) (H1 : Heap) (locs1 : List Loc) (st1 : zSt) (ls1 : Array Slot), zOK n st1 → zIV G x z L n mb xr zr s.heap st1 M1 H1 locs1 → lv_has ls1 8 [(0, .ref b), (1, .ref x), (2, .ref xr), (3, .ref L), (4, .int (nI i))] → W p l e room_1 s m #[Value.ref b] below meth c H1 locs1 (cells + 960) (slots + 3360) Q (F0 m 783 ls1 [])) : W p l e room_1 s m #[Value.ref b] below meth c H locs cells slots Q (F0 m 442 ls []) := by
  obtain ⟨hx, hb, hr, hml, hown, hz, hX, hbl, hlocks, hEN, hlen, hflag⟩ := C0
  have hE := hEN.1
  obtain ⟨y1, y2, y3, y4, y5, y6, y7⟩ := lay
  obtain ⟨hH, hS, hLs, ⟨qs, g, hCR⟩, ⟨th, pt, Y, hRR⟩, f0, hML⟩ := hI
  have hK := hE.1
  have hbA : ¬ zw_A s.heap.size b := Nat.not_le.mpr hbl
  obtain ⟨k, rb, st1, hk3, hok1, hC, hF⟩ := mk_message l hflag G s.heap.size x z L n mb xr zr st y5 y6 y7 hok (xs (i + 1)) (xs (i + 2))
  refine lv_aload_n hx hb dL_law_442 rfl (lv_at hl 1 rfl) ?_
  refine lv_aload_n hx hb dL_law_443 rfl (lv_at hl 0 rfl) ?_
  refine lv_iload hx hb dL_law_444 (lv_at hl 4 rfl) ?_
  refine lv_iconst (v := nI 1) hx hb dL_law_446 (by decide) ?_
  refine lv_iadd hx hb dL_law_447 ?_
  refine zw_ti (nI_add _ _) ?_
  refine va_sld hx hb hX hbl hbA hS (vp_in_nI (show (i + 1) < len by omega) (by omega)) dL_law_448 ?_
  refine zw_ti (congrArg xs (nI_clamp (show (i + 1) < 2 ^ 31 by omega))) ?_
  refine lv_aload_n hx hb dL_law_449 rfl (lv_at hl 0 rfl) ?_
  refine lv_iload hx hb dL_law_450 (lv_at hl 4 rfl) ?_
  refine lv_iconst (v := nI 2) hx hb dL_law_452 (by decide) ?_
  refine lv_iadd hx hb dL_law_453 ?_
  refine zw_ti (nI_add _ _) ?_
  refine va_sld hx hb hX hbl hbA hS (vp_in_nI (show (i + 2) < len by omega) (by omega)) dL_law_454 ?_
  refine zw_ti (congrArg xs (nI_clamp (show (i + 2) < 2 ^ 31 by omega))) ?_
  refine lv_aload_n hx hb dL_law_455 rfl (lv_at hl 3 rfl) ?_
  refine zr_SW (As := [.ref x, .int (xs (i + 1)), .int (xs (i + 2)), .ref L]) (rest := []) (mc := 960) (ms := 3360) ⟨hx, hb, hml, hown, hz⟩ (hC M _ qs g f0 hCR hML (by omega) hLs) (zt_W zm_361) rfl rfl rfl (hz _ zm_0) (hz _ zm_359) (hz _ zm_360) (show _ ∧ _ ∧ _ = some 4 from by decide +kernel) ⟨Nat.le_of_ble_eq_true rfl, Nat.le_of_ble_eq_true rfl⟩ zEN_blind (zEN_at hEN hS) hH hS hl.1 rfl (Nat.le_of_ble_eq_true rfl) dL_law_456 ⟨hce, hsl⟩ (fun r1 M1 sz1 H1 L1 hp hH hz1 hz2 hS => ?_)
  obtain ⟨hr1, ⟨qs1, g1, hCR⟩, hfm, hs1, f1, hML, hf1⟩ := hp
  subst hr1
  have hRR : zRR G M1 xr zr n mb st th pt Y := hRR.to2 (fun q9 e9 h9 h8 => (hfm q9 (by omega) (by omega) (Or.inr (by omega)) (by omega)).trans h8)
  have hLs : L < H1.size := by omega
  refine lv_istore (lv' := [(5, .int (nI k)), (0, .ref b), (1, .ref x), (2, .ref xr), (3, .ref L), (4, .int (nI i))]) hx hb dL_law_459 hl (by decide) rfl (fun ls hl => ?_)
  refine lv_aload_n hx hb dL_law_461 rfl (lv_at hl 3 rfl) ?_
  refine lv_aload_n hx hb dL_law_462 rfl (lv_at hl 1 rfl) ?_
  refine lv_iload hx hb dL_law_463 (lv_at hl 5 rfl) ?_
  refine lv_iconst (v := nI 1) hx hb dL_law_465 (by decide) ?_
  refine lv_iadd hx hb dL_law_466 ?_
  refine zw_ti (nI_add _ _) ?_
  refine va_sld hx hb hX hbl hbA hS (vp_in_nI (show (i + 1) < len by omega) (by omega)) dL_law_467 ?_
  refine zw_ti (congrArg xs (nI_clamp (show (i + 1) < 2 ^ 31 by omega))) ?_
  refine lv_aload_n hx hb dL_law_468 rfl (lv_at hl 1 rfl) ?_
  refine lv_iload hx hb dL_law_469 (lv_at hl 5 rfl) ?_
  refine lv_iconst (v := nI 2) hx hb dL_law_471 (by decide) ?_
  refine lv_iadd hx hb dL_law_472 ?_
  refine zw_ti (nI_add _ _) ?_
  refine va_sld hx hb hX hbl hbA hS (vp_in_nI (show (i + 2) < len by omega) (by omega)) dL_law_473 ?_
  refine zw_ti (congrArg xs (nI_clamp (show (i + 2) < 2 ^ 31 by omega))) ?_
  refine zr_Vi (As := [.int (xs (i + 1)), .int (xs (i + 2))]) (rest := []) (q := (RR, TR, 22)) (mc := 0) (ms := 0) ⟨hx, hb, hml, hown, hz⟩ (hF M1 _ th pt Y hRR) (zt_V zm_524 zm_525 zm_526 zm_3 zm_527) rfl rfl rfl (show _ ∧ _ ∧ _ ∧ _ = some 2 from by decide +kernel) ⟨Nat.le_of_ble_eq_true rfl, Nat.le_of_ble_eq_true rfl⟩ zE_blind (zE_at hE hS) hH hK hRR.obj rfl rfl hS hl.1 rfl (Nat.le_of_ble_eq_true rfl) dL_law_474 ⟨(show cells + 960 + 0 ≤ 601024 by omega), (show slots + 3360 + 0 ≤ 7293000 by omega)⟩ (fun r2 M2 sz2 H2 L2 hp hH hz3 hz4 hS => ?_)
  obtain ⟨hr2, ⟨pt2, Y2, hRR⟩, hrf, hs2⟩ := hp
  subst hr2
  have hCR : zCR G M2 x z L n mb st1 qs1 g1 := hCR.to (fun q9 e9 h9 h8 => (hrf q9 (by omega) (by omega)).trans h8)
  have hML : M2 L = some (.inl (G.2.1 1, 1, .inr (.inl f1))) := (hrf L (by omega) (by omega)).trans hML
  have hLs : L < H2.size := by omega
  refine lv_istore (lv' := [(6, .int r2), (5, .int (nI k)), (0, .ref b), (1, .ref x), (2, .ref xr), (3, .ref L), (4, .int (nI i))]) hx hb dL_law_477 hl (by decide) rfl (fun ls hl => ?_)
  refine lv_aload_n hx hb dL_law_479 rfl (lv_at hl 4 rfl) ?_
  refine zr_V (As := []) (rest := []) (q := (RR, TR, 22)) ⟨hx, hb, hml, hown, hz⟩ (kR_thrown l G s.heap.size M2 xr zr n mb st1 k pt2 Y2 y6 hRR) (zt_V zm_455 zm_456 zm_457 zm_3 zm_458) rfl rfl rfl (show _ ∧ _ ∧ _ ∧ _ = some 0 from by decide +kernel) ⟨Nat.le_of_ble_eq_true rfl, Nat.le_of_ble_eq_true rfl⟩ zE_blind (zE_at hE hS) hH hK hRR.obj rfl rfl hl.1 rfl (Nat.le_of_ble_eq_true rfl) dL_law_480 ⟨(show cells + 960 + 0 ≤ 601024 by omega), (show slots + 3360 + 0 ≤ 7293000 by omega)⟩ ?_
  refine lv_iload hx hb dL_law_483 (lv_at hl 1 rfl) ?_
  refine zc_eq (tgt := 490) hx hb dL_law_485 (by decide) (by omega) (by omega) (fun b1 => ?_) (fun b1 => ?_)
  · refine lv_iload hx hb dL_law_490 (lv_at hl 1 rfl) ?_
    refine zc_ne0 (tgt := 507) hx hb dL_law_492 (by decide) (by omega) (fun b2 => ?_) (fun b2 => ?_)
    · refine lv_goto (tgt := 783) hx hb dL_law_507 (by decide) ?_
      refine W.widen (k := cells + 960) (n := slots + 3360) (by omega) (by omega) ?_
      exact kk M2 _ _ st1 ls hok1 ⟨hH, hS, hLs, ⟨_, _, hCR⟩, ⟨_, _, _, hRR⟩, f1, hML⟩ (lv_sub hl [2, 3, 4, 5, 6] rfl)
    · refine lv_aload_n hx hb dL_law_495 rfl (lv_at hl 5 rfl) ?_
      refine lv_iconst (v := nI 0) hx hb dL_law_496 (by decide) ?_
      refine zw_lald hx hb hK hH 1 hML rfl (0) rfl (by decide) (by decide) dL_law_497 ?_
      refine lv_iload hx hb dL_law_498 (lv_at hl 0 rfl) ?_
      refine lv_i2l hx hb dL_law_500 rfl ?_
      refine W.lcmp hx hb dL_law_501 ?_
      refine lv_if_eq (tgt := 507) hx hb dL_law_502 (by decide) (fun b3 => ?_) (fun b3 => ?_)
      · refine lv_goto (tgt := 783) hx hb dL_law_507 (by decide) ?_
        refine W.widen (k := cells + 960) (n := slots + 3360) (by omega) (by omega) ?_
        exact kk M2 _ _ st1 ls hok1 ⟨hH, hS, hLs, ⟨_, _, hCR⟩, ⟨_, _, _, hRR⟩, f1, hML⟩ (lv_sub hl [2, 3, 4, 5, 6] rfl)
      · exact absurd ((lg_cmp_eq _ _).mpr (hf1 b2)) b3
  · exact absurd rfl b1
set_option maxHeartbeats 8000000 in
set_option maxRecDepth 100000 in
theorem law_inside {p : Program} {l : Launch} {e : Env} {s : State} {m : MethodId} {below : List Frame} {meth : Method} {c : Code} {G : zG} {b len : Nat} {xs : Nat → Int32} (C0 : zLC p l s m meth c b len xs G) {x z L n mb xr zr : Nat} (lay : zLay x z L n mb xr zr) {st : zSt} (hok : zOK n st) {i : Nat} (hi : i + 3 ≤ len) {M : zw_M} {H : Heap} {locs : List Loc} {cells slots : Nat} {Q : State → Prop} (hce : cells + 960 ≤ 601024) (hsl : slots + 3360 ≤ 7293000) (hI : zIV G x z L n mb xr zr s.heap st M H locs) {ls : Array Slot} (hl : lv_has ls 8 [(0, .ref b), (1, .ref x), (2, .ref xr), (3, .ref L), (4, .int (nI i))])
    (kk : ∀ (M1 : zw_M) (H1 : Heap) (locs1 : List Loc) (st1 : zSt) (ls1 : Array Slot), zOK n st1 → zIV G x z L n mb xr zr s.heap st1 M1 H1 locs1 → lv_has ls1 8 [(0, .ref b), (1, .ref x), (2, .ref xr), (3, .ref L), (4, .int (nI i))] → W p l e room_1 s m #[Value.ref b] below meth c H1 locs1 (cells + 960) (slots + 3360) Q (F0 m 783 ls1 [])) : W p l e room_1 s m #[Value.ref b] below meth c H locs cells slots Q (F0 m 510 ls []) := by
  obtain ⟨hx, hb, hr, hml, hown, hz, hX, hbl, hlocks, hEN, hlen, hflag⟩ := C0
  have hE := hEN.1
  obtain ⟨y1, y2, y3, y4, y5, y6, y7⟩ := lay
  obtain ⟨hH, hS, hLs, ⟨qs, g, hCR⟩, ⟨th, pt, Y, hRR⟩, f0, hML⟩ := hI
  have hK := hE.1
  have hbA : ¬ zw_A s.heap.size b := Nat.not_le.mpr hbl
  obtain ⟨rb, st1, hok1, hC, hF⟩ := mk_inside l hflag G s.heap.size x z L n mb xr zr st y5 y6 y7 hok (xs (i + 1)) (xs (i + 2))
  refine lv_aload_n hx hb dL_law_510 rfl (lv_at hl 1 rfl) ?_
  refine lv_aload_n hx hb dL_law_511 rfl (lv_at hl 0 rfl) ?_
  refine lv_iload hx hb dL_law_512 (lv_at hl 4 rfl) ?_
  refine lv_iconst (v := nI 1) hx hb dL_law_514 (by decide) ?_
  refine lv_iadd hx hb dL_law_515 ?_
  refine zw_ti (nI_add _ _) ?_
  refine va_sld hx hb hX hbl hbA hS (vp_in_nI (show (i + 1) < len by omega) (by omega)) dL_law_516 ?_
  refine zw_ti (congrArg xs (nI_clamp (show (i + 1) < 2 ^ 31 by omega))) ?_
  refine lv_aload_n hx hb dL_law_517 rfl (lv_at hl 0 rfl) ?_
  refine lv_iload hx hb dL_law_518 (lv_at hl 4 rfl) ?_
  refine lv_iconst (v := nI 2) hx hb dL_law_520 (by decide) ?_
  refine lv_iadd hx hb dL_law_521 ?_
  refine zw_ti (nI_add _ _) ?_
  refine va_sld hx hb hX hbl hbA hS (vp_in_nI (show (i + 2) < len by omega) (by omega)) dL_law_522 ?_
  refine zw_ti (congrArg xs (nI_clamp (show (i + 2) < 2 ^ 31 by omega))) ?_
  refine zr_Vi (As := [.int (xs (i + 1)), .int (xs (i + 2))]) (rest := []) (q := (RC, TC, 14)) (mc := 0) (ms := 0) ⟨hx, hb, hml, hown, hz⟩ (hC M _ qs g hCR) (zt_V zm_97 zm_98 zm_99 zm_1 zm_100) rfl rfl rfl (show _ ∧ _ ∧ _ ∧ _ = some 2 from by decide +kernel) ⟨Nat.le_of_ble_eq_true rfl, Nat.le_of_ble_eq_true rfl⟩ zE_blind (zE_at hE hS) hH hK hCR.obj rfl rfl hS hl.1 rfl (Nat.le_of_ble_eq_true rfl) dL_law_523 ⟨(show cells + 0 ≤ 601024 by omega), (show slots + 0 ≤ 7293000 by omega)⟩ (fun r1 M1 sz1 H1 L1 hp hH hz1 hz2 hS => ?_)
  obtain ⟨hr1, ⟨qs1, g1, hCR⟩, hfm, hs1⟩ := hp
  subst hr1
  have hRR : zRR G M1 xr zr n mb st th pt Y := hRR.to2 (fun q9 e9 h9 h8 => (hfm q9 (by omega) (Or.inr (by omega)) (by omega)).trans h8)
  have hML : M1 L = some (.inl (G.2.1 1, 1, .inr (.inl f0))) := (hfm L (by omega) (Or.inr (by omega)) hLs).trans hML
  have hLs : L < H1.size := by omega
  refine lv_aload_n hx hb dL_law_526 rfl (lv_at hl 2 rfl) ?_
  refine lv_aload_n hx hb dL_law_527 rfl (lv_at hl 0 rfl) ?_
  refine lv_iload hx hb dL_law_528 (lv_at hl 4 rfl) ?_
  refine lv_iconst (v := nI 1) hx hb dL_law_530 (by decide) ?_
  refine lv_iadd hx hb dL_law_531 ?_
  refine zw_ti (nI_add _ _) ?_
  refine va_sld hx hb hX hbl hbA hS (vp_in_nI (show (i + 1) < len by omega) (by omega)) dL_law_532 ?_
  refine zw_ti (congrArg xs (nI_clamp (show (i + 1) < 2 ^ 31 by omega))) ?_
  refine lv_aload_n hx hb dL_law_533 rfl (lv_at hl 0 rfl) ?_
  refine lv_iload hx hb dL_law_534 (lv_at hl 4 rfl) ?_
  refine lv_iconst (v := nI 2) hx hb dL_law_536 (by decide) ?_
  refine lv_iadd hx hb dL_law_537 ?_
  refine zw_ti (nI_add _ _) ?_
  refine va_sld hx hb hX hbl hbA hS (vp_in_nI (show (i + 2) < len by omega) (by omega)) dL_law_538 ?_
  refine zw_ti (congrArg xs (nI_clamp (show (i + 2) < 2 ^ 31 by omega))) ?_
  refine zr_Vi (As := [.int (xs (i + 1)), .int (xs (i + 2))]) (rest := [.int r1]) (q := (RR, TR, 22)) (mc := 0) (ms := 0) ⟨hx, hb, hml, hown, hz⟩ (hF M1 _ th pt Y hRR) (zt_V zm_532 zm_533 zm_534 zm_3 zm_535) rfl rfl rfl (show _ ∧ _ ∧ _ ∧ _ = some 2 from by decide +kernel) ⟨Nat.le_of_ble_eq_true rfl, Nat.le_of_ble_eq_true rfl⟩ zE_blind (zE_at hE hS) hH hK hRR.obj rfl rfl hS hl.1 rfl (Nat.le_of_ble_eq_true rfl) dL_law_539 ⟨(show cells + 0 + 0 ≤ 601024 by omega), (show slots + 0 + 0 ≤ 7293000 by omega)⟩ (fun r2 M2 sz2 H2 L2 hp hH hz3 hz4 hS => ?_)
  obtain ⟨hr2, ⟨pt2, Y2, hRR⟩, hrf, hs2⟩ := hp
  subst hr2
  have hCR : zCR G M2 x z L n mb st1 qs1 g1 := hCR.to (fun q9 e9 h9 h8 => (hrf q9 (by omega) (by omega)).trans h8)
  have hML : M2 L = some (.inl (G.2.1 1, 1, .inr (.inl f0))) := (hrf L (by omega) (by omega)).trans hML
  have hLs : L < H2.size := by omega
  refine lv_icmp_eq (tgt := 783) hx hb dL_law_542 (by decide) (fun b3 => ?_) (fun b3 => ?_)
  · refine W.widen (k := cells + 960) (n := slots + 3360) (by omega) (by omega) ?_
    exact kk M2 _ _ st1 ls hok1 ⟨hH, hS, hLs, ⟨_, _, hCR⟩, ⟨_, _, _, hRR⟩, f0, hML⟩ (lv_sub hl [0, 1, 2, 3, 4] rfl)
  · exact absurd rfl b3
set_option maxHeartbeats 8000000 in
set_option maxRecDepth 100000 in
theorem law_told {p : Program} {l : Launch} {e : Env} {s : State} {m : MethodId} {below : List Frame} {meth : Method} {c : Code} {G : zG} {b len : Nat} {xs : Nat → Int32} (C0 : zLC p l s m meth c b len xs G) {x z L n mb xr zr : Nat} (lay : zLay x z L n mb xr zr) {st : zSt} (hok : zOK n st) {i : Nat} (hi : i + 3 ≤ len) {M : zw_M} {H : Heap} {locs : List Loc} {cells slots : Nat} {Q : State → Prop} (hce : cells + 960 ≤ 601024) (hsl : slots + 3360 ≤ 7293000) (hI : zIV G x z L n mb xr zr s.heap st M H locs) {ls : Array Slot} (hl : lv_has ls 8 [(0, .ref b), (1, .ref x), (2, .ref xr), (3, .ref L), (4, .int (nI i))])
    (kk : ∀ (M1 : zw_M) (H1 : Heap) (locs1 : List Loc) (st1 : zSt) (ls1 : Array Slot), zOK n st1 → zIV G x z L n mb xr zr s.heap st1 M1 H1 locs1 → lv_has ls1 8 [(0, .ref b), (1, .ref x), (2, .ref xr), (3, .ref L), (4, .int (nI i))] → W p l e room_1 s m #[Value.ref b] below meth c H1 locs1 (cells + 960) (slots + 3360) Q (F0 m 783 ls1 [])) : W p l e room_1 s m #[Value.ref b] below meth c H locs cells slots Q (F0 m 547 ls []) := by
  obtain ⟨hx, hb, hr, hml, hown, hz, hX, hbl, hlocks, hEN, hlen, hflag⟩ := C0
  have hE := hEN.1
  obtain ⟨y1, y2, y3, y4, y5, y6, y7⟩ := lay
  obtain ⟨hH, hS, hLs, ⟨qs, g, hCR⟩, ⟨th, pt, Y, hRR⟩, f0, hML⟩ := hI
  have hK := hE.1
  have hbA : ¬ zw_A s.heap.size b := Nat.not_le.mpr hbl
  obtain ⟨rb, st1, hok1, hC, hF⟩ := mk_told l hflag G s.heap.size x z L n mb xr zr st y5 y6 y7 hok (xs (i + 1))
  refine lv_aload_n hx hb dL_law_547 rfl (lv_at hl 1 rfl) ?_
  refine lv_aload_n hx hb dL_law_548 rfl (lv_at hl 0 rfl) ?_
  refine lv_iload hx hb dL_law_549 (lv_at hl 4 rfl) ?_
  refine lv_iconst (v := nI 1) hx hb dL_law_551 (by decide) ?_
  refine lv_iadd hx hb dL_law_552 ?_
  refine zw_ti (nI_add _ _) ?_
  refine va_sld hx hb hX hbl hbA hS (vp_in_nI (show (i + 1) < len by omega) (by omega)) dL_law_553 ?_
  refine zw_ti (congrArg xs (nI_clamp (show (i + 1) < 2 ^ 31 by omega))) ?_
  refine zr_Vl (As := [.int (xs (i + 1))]) (rest := []) (q := (RC, TC, 14)) (mc := 0) (ms := 0) ⟨hx, hb, hml, hown, hz⟩ (hC M _ qs g hCR) (zt_V zm_101 zm_102 zm_103 zm_1 zm_104) rfl rfl rfl (show _ ∧ _ ∧ _ ∧ _ = some 1 from by decide +kernel) ⟨Nat.le_of_ble_eq_true rfl, Nat.le_of_ble_eq_true rfl⟩ zE_blind (zE_at hE hS) hH hK hCR.obj rfl rfl hS hl.1 rfl (Nat.le_of_ble_eq_true rfl) dL_law_554 ⟨(show cells + 0 ≤ 601024 by omega), (show slots + 0 ≤ 7293000 by omega)⟩ (fun r1 M1 sz1 H1 L1 hp hH hz1 hz2 hS => ?_)
  obtain ⟨hr1, ⟨qs1, g1, hCR⟩, hfm, hs1⟩ := hp
  subst hr1
  have hRR : zRR G M1 xr zr n mb st th pt Y := hRR.to2 (fun q9 e9 h9 h8 => (hfm q9 (by omega) (Or.inr (by omega)) (by omega)).trans h8)
  have hML : M1 L = some (.inl (G.2.1 1, 1, .inr (.inl f0))) := (hfm L (by omega) (Or.inr (by omega)) hLs).trans hML
  have hLs : L < H1.size := by omega
  refine lv_aload_n hx hb dL_law_557 rfl (lv_at hl 2 rfl) ?_
  refine lv_aload_n hx hb dL_law_558 rfl (lv_at hl 0 rfl) ?_
  refine lv_iload hx hb dL_law_559 (lv_at hl 4 rfl) ?_
  refine lv_iconst (v := nI 1) hx hb dL_law_561 (by decide) ?_
  refine lv_iadd hx hb dL_law_562 ?_
  refine zw_ti (nI_add _ _) ?_
  refine va_sld hx hb hX hbl hbA hS (vp_in_nI (show (i + 1) < len by omega) (by omega)) dL_law_563 ?_
  refine zw_ti (congrArg xs (nI_clamp (show (i + 1) < 2 ^ 31 by omega))) ?_
  refine zr_Vl (As := [.int (xs (i + 1))]) (rest := [.long r1]) (q := (RR, TR, 22)) (mc := 0) (ms := 0) ⟨hx, hb, hml, hown, hz⟩ (hF M1 _ th pt Y hRR) (zt_V zm_536 zm_537 zm_538 zm_3 zm_539) rfl rfl rfl (show _ ∧ _ ∧ _ ∧ _ = some 1 from by decide +kernel) ⟨Nat.le_of_ble_eq_true rfl, Nat.le_of_ble_eq_true rfl⟩ zE_blind (zE_at hE hS) hH hK hRR.obj rfl rfl hS hl.1 rfl (Nat.le_of_ble_eq_true rfl) dL_law_564 ⟨(show cells + 0 + 0 ≤ 601024 by omega), (show slots + 0 + 0 ≤ 7293000 by omega)⟩ (fun r2 M2 sz2 H2 L2 hp hH hz3 hz4 hS => ?_)
  obtain ⟨hr2, ⟨pt2, Y2, hRR⟩, hrf, hs2⟩ := hp
  subst hr2
  have hCR : zCR G M2 x z L n mb st1 qs1 g1 := hCR.to (fun q9 e9 h9 h8 => (hrf q9 (by omega) (by omega)).trans h8)
  have hML : M2 L = some (.inl (G.2.1 1, 1, .inr (.inl f0))) := (hrf L (by omega) (by omega)).trans hML
  have hLs : L < H2.size := by omega
  refine W.lcmp hx hb dL_law_567 ?_
  refine lv_if_eq (tgt := 783) hx hb dL_law_568 (by decide) (fun b3 => ?_) (fun b3 => ?_)
  · refine W.widen (k := cells + 960) (n := slots + 3360) (by omega) (by omega) ?_
    exact kk M2 _ _ st1 ls hok1 ⟨hH, hS, hLs, ⟨_, _, hCR⟩, ⟨_, _, _, hRR⟩, f0, hML⟩ (lv_sub hl [0, 1, 2, 3, 4] rfl)
  · exact absurd ((lg_cmp_eq _ _).mpr rfl) b3
set_option maxHeartbeats 8000000 in
set_option maxRecDepth 100000 in
theorem law_clock {p : Program} {l : Launch} {e : Env} {s : State} {m : MethodId} {below : List Frame} {meth : Method} {c : Code} {G : zG} {b len : Nat} {xs : Nat → Int32} (C0 : zLC p l s m meth c b len xs G) {x z L n mb xr zr : Nat} (lay : zLay x z L n mb xr zr) {st : zSt} (hok : zOK n st) {i : Nat} (hi : i + 3 ≤ len) {M : zw_M} {H : Heap} {locs : List Loc} {cells slots : Nat} {Q : State → Prop} (hce : cells + 960 ≤ 601024) (hsl : slots + 3360 ≤ 7293000) (hI : zIV G x z L n mb xr zr s.heap st M H locs) {ls : Array Slot} (hl : lv_has ls 8 [(0, .ref b), (1, .ref x), (2, .ref xr), (3, .ref L), (4, .int (nI i))])
    (kk : ∀ (M1 : zw_M) (H1 : Heap) (locs1 : List Loc) (st1 : zSt) (ls1 : Array Slot), zOK n st1 → zIV G x z L n mb xr zr s.heap st1 M1 H1 locs1 → lv_has ls1 8 [(0, .ref b), (1, .ref x), (2, .ref xr), (3, .ref L), (4, .int (nI i))] → W p l e room_1 s m #[Value.ref b] below meth c H1 locs1 (cells + 960) (slots + 3360) Q (F0 m 783 ls1 [])) : W p l e room_1 s m #[Value.ref b] below meth c H locs cells slots Q (F0 m 573 ls []) := by
  obtain ⟨hx, hb, hr, hml, hown, hz, hX, hbl, hlocks, hEN, hlen, hflag⟩ := C0
  have hE := hEN.1
  obtain ⟨y1, y2, y3, y4, y5, y6, y7⟩ := lay
  obtain ⟨hH, hS, hLs, ⟨qs, g, hCR⟩, ⟨th, pt, Y, hRR⟩, f0, hML⟩ := hI
  have hK := hE.1
  have hbA : ¬ zw_A s.heap.size b := Nat.not_le.mpr hbl
  obtain ⟨k, rb, st1, hk3, hok1, hC, hF⟩ := mk_clock l hflag G s.heap.size x z L n mb xr zr st y5 y6 y7 hok (xs (i + 1))
  refine lv_aload_n hx hb dL_law_573 rfl (lv_at hl 1 rfl) ?_
  refine lv_aload_n hx hb dL_law_574 rfl (lv_at hl 0 rfl) ?_
  refine lv_iload hx hb dL_law_575 (lv_at hl 4 rfl) ?_
  refine lv_iconst (v := nI 1) hx hb dL_law_577 (by decide) ?_
  refine lv_iadd hx hb dL_law_578 ?_
  refine zw_ti (nI_add _ _) ?_
  refine va_sld hx hb hX hbl hbA hS (vp_in_nI (show (i + 1) < len by omega) (by omega)) dL_law_579 ?_
  refine zw_ti (congrArg xs (nI_clamp (show (i + 1) < 2 ^ 31 by omega))) ?_
  refine lv_aload_n hx hb dL_law_580 rfl (lv_at hl 3 rfl) ?_
  refine zr_SW (As := [.ref x, .int (xs (i + 1)), .ref L]) (rest := []) (mc := 960) (ms := 3360) ⟨hx, hb, hml, hown, hz⟩ (hC M _ qs g f0 hCR hML (by omega) hLs) (zt_W zm_369) rfl rfl rfl (hz _ zm_0) (hz _ zm_367) (hz _ zm_368) (show _ ∧ _ ∧ _ = some 3 from by decide +kernel) ⟨Nat.le_of_ble_eq_true rfl, Nat.le_of_ble_eq_true rfl⟩ zEN_blind (zEN_at hEN hS) hH hS hl.1 rfl (Nat.le_of_ble_eq_true rfl) dL_law_581 ⟨hce, hsl⟩ (fun r1 M1 sz1 H1 L1 hp hH hz1 hz2 hS => ?_)
  obtain ⟨hr1, ⟨qs1, g1, hCR⟩, hfm, hs1, f1, hML, hf1⟩ := hp
  subst hr1
  have hRR : zRR G M1 xr zr n mb st th pt Y := hRR.to2 (fun q9 e9 h9 h8 => (hfm q9 (by omega) (by omega) (Or.inr (by omega)) (by omega)).trans h8)
  have hLs : L < H1.size := by omega
  refine lv_istore (lv' := [(5, .int (nI k)), (0, .ref b), (1, .ref x), (2, .ref xr), (3, .ref L), (4, .int (nI i))]) hx hb dL_law_584 hl (by decide) rfl (fun ls hl => ?_)
  refine lv_aload_n hx hb dL_law_586 rfl (lv_at hl 3 rfl) ?_
  refine lv_aload_n hx hb dL_law_587 rfl (lv_at hl 1 rfl) ?_
  refine lv_iload hx hb dL_law_588 (lv_at hl 5 rfl) ?_
  refine lv_iconst (v := nI 1) hx hb dL_law_590 (by decide) ?_
  refine lv_iadd hx hb dL_law_591 ?_
  refine zw_ti (nI_add _ _) ?_
  refine va_sld hx hb hX hbl hbA hS (vp_in_nI (show (i + 1) < len by omega) (by omega)) dL_law_592 ?_
  refine zw_ti (congrArg xs (nI_clamp (show (i + 1) < 2 ^ 31 by omega))) ?_
  refine zr_Vl (As := [.int (xs (i + 1))]) (rest := []) (q := (RR, TR, 22)) (mc := 0) (ms := 0) ⟨hx, hb, hml, hown, hz⟩ (hF M1 _ th pt Y hRR) (zt_V zm_541 zm_542 zm_543 zm_3 zm_544) rfl rfl rfl (show _ ∧ _ ∧ _ ∧ _ = some 1 from by decide +kernel) ⟨Nat.le_of_ble_eq_true rfl, Nat.le_of_ble_eq_true rfl⟩ zE_blind (zE_at hE hS) hH hK hRR.obj rfl rfl hS hl.1 rfl (Nat.le_of_ble_eq_true rfl) dL_law_593 ⟨(show cells + 960 + 0 ≤ 601024 by omega), (show slots + 3360 + 0 ≤ 7293000 by omega)⟩ (fun r2 M2 sz2 H2 L2 hp hH hz3 hz4 hS => ?_)
  obtain ⟨hr2, ⟨pt2, Y2, hRR⟩, hrf, hs2⟩ := hp
  subst hr2
  have hCR : zCR G M2 x z L n mb st1 qs1 g1 := hCR.to (fun q9 e9 h9 h8 => (hrf q9 (by omega) (by omega)).trans h8)
  have hML : M2 L = some (.inl (G.2.1 1, 1, .inr (.inl f1))) := (hrf L (by omega) (by omega)).trans hML
  have hLs : L < H2.size := by omega
  refine lv_lstore (lv' := [(6, .long r2), (5, .int (nI k)), (0, .ref b), (1, .ref x), (2, .ref xr), (3, .ref L), (4, .int (nI i))]) hx hb dL_law_596 hl (by decide) rfl (fun ls hl => ?_)
  refine lv_aload_n hx hb dL_law_598 rfl (lv_at hl 4 rfl) ?_
  refine zr_V (As := []) (rest := []) (q := (RR, TR, 22)) ⟨hx, hb, hml, hown, hz⟩ (kR_thrown l G s.heap.size M2 xr zr n mb st1 k pt2 Y2 y6 hRR) (zt_V zm_455 zm_456 zm_457 zm_3 zm_458) rfl rfl rfl (show _ ∧ _ ∧ _ ∧ _ = some 0 from by decide +kernel) ⟨Nat.le_of_ble_eq_true rfl, Nat.le_of_ble_eq_true rfl⟩ zE_blind (zE_at hE hS) hH hK hRR.obj rfl rfl hl.1 rfl (Nat.le_of_ble_eq_true rfl) dL_law_599 ⟨(show cells + 960 + 0 ≤ 601024 by omega), (show slots + 3360 + 0 ≤ 7293000 by omega)⟩ ?_
  refine lv_iload hx hb dL_law_602 (lv_at hl 1 rfl) ?_
  refine zc_eq (tgt := 609) hx hb dL_law_604 (by decide) (by omega) (by omega) (fun b1 => ?_) (fun b1 => ?_)
  · refine lv_iload hx hb dL_law_609 (lv_at hl 1 rfl) ?_
    refine zc_ne0 (tgt := 625) hx hb dL_law_611 (by decide) (by omega) (fun b2 => ?_) (fun b2 => ?_)
    · refine lv_goto (tgt := 783) hx hb dL_law_625 (by decide) ?_
      refine W.widen (k := cells + 960) (n := slots + 3360) (by omega) (by omega) ?_
      exact kk M2 _ _ st1 ls hok1 ⟨hH, hS, hLs, ⟨_, _, hCR⟩, ⟨_, _, _, hRR⟩, f1, hML⟩ (lv_sub hl [2, 3, 4, 5, 6] rfl)
    · refine lv_aload_n hx hb dL_law_614 rfl (lv_at hl 5 rfl) ?_
      refine lv_iconst (v := nI 0) hx hb dL_law_615 (by decide) ?_
      refine zw_lald hx hb hK hH 1 hML rfl (0) rfl (by decide) (by decide) dL_law_616 ?_
      refine lv_lload hx hb dL_law_617 (lv_at hl 0 rfl) ?_
      refine W.lcmp hx hb dL_law_619 ?_
      refine lv_if_eq (tgt := 625) hx hb dL_law_620 (by decide) (fun b3 => ?_) (fun b3 => ?_)
      · refine lv_goto (tgt := 783) hx hb dL_law_625 (by decide) ?_
        refine W.widen (k := cells + 960) (n := slots + 3360) (by omega) (by omega) ?_
        exact kk M2 _ _ st1 ls hok1 ⟨hH, hS, hLs, ⟨_, _, hCR⟩, ⟨_, _, _, hRR⟩, f1, hML⟩ (lv_sub hl [2, 3, 4, 5, 6] rfl)
      · exact absurd ((lg_cmp_eq _ _).mpr (hf1 b2)) b3
  · exact absurd rfl b1
set_option maxHeartbeats 8000000 in
set_option maxRecDepth 100000 in
theorem law_log {p : Program} {l : Launch} {e : Env} {s : State} {m : MethodId} {below : List Frame} {meth : Method} {c : Code} {G : zG} {b len : Nat} {xs : Nat → Int32} (C0 : zLC p l s m meth c b len xs G) {x z L n mb xr zr : Nat} (lay : zLay x z L n mb xr zr) {st : zSt} (hok : zOK n st) {i : Nat} (hi : i + 3 ≤ len) {M : zw_M} {H : Heap} {locs : List Loc} {cells slots : Nat} {Q : State → Prop} (hce : cells + 960 ≤ 601024) (hsl : slots + 3360 ≤ 7293000) (hI : zIV G x z L n mb xr zr s.heap st M H locs) {ls : Array Slot} (hl : lv_has ls 8 [(0, .ref b), (1, .ref x), (2, .ref xr), (3, .ref L), (4, .int (nI i))])
    (kk : ∀ (M1 : zw_M) (H1 : Heap) (locs1 : List Loc) (st1 : zSt) (ls1 : Array Slot), zOK n st1 → zIV G x z L n mb xr zr s.heap st1 M1 H1 locs1 → lv_has ls1 8 [(0, .ref b), (1, .ref x), (2, .ref xr), (3, .ref L), (4, .int (nI i))] → W p l e room_1 s m #[Value.ref b] below meth c H1 locs1 (cells + 960) (slots + 3360) Q (F0 m 783 ls1 [])) : W p l e room_1 s m #[Value.ref b] below meth c H locs cells slots Q (F0 m 628 ls []) := by
  obtain ⟨hx, hb, hr, hml, hown, hz, hX, hbl, hlocks, hEN, hlen, hflag⟩ := C0
  have hE := hEN.1
  obtain ⟨y1, y2, y3, y4, y5, y6, y7⟩ := lay
  obtain ⟨hH, hS, hLs, ⟨qs, g, hCR⟩, ⟨th, pt, Y, hRR⟩, f0, hML⟩ := hI
  have hK := hE.1
  have hbA : ¬ zw_A s.heap.size b := Nat.not_le.mpr hbl
  obtain ⟨rb, st1, hok1, hC, hF⟩ := mk_log l hflag G s.heap.size x z L n mb xr zr st y5 y6 y7 hok (xs (i + 1)) (xs (i + 2))
  refine lv_aload_n hx hb dL_law_628 rfl (lv_at hl 1 rfl) ?_
  refine lv_aload_n hx hb dL_law_629 rfl (lv_at hl 0 rfl) ?_
  refine lv_iload hx hb dL_law_630 (lv_at hl 4 rfl) ?_
  refine lv_iconst (v := nI 1) hx hb dL_law_632 (by decide) ?_
  refine lv_iadd hx hb dL_law_633 ?_
  refine zw_ti (nI_add _ _) ?_
  refine va_sld hx hb hX hbl hbA hS (vp_in_nI (show (i + 1) < len by omega) (by omega)) dL_law_634 ?_
  refine zw_ti (congrArg xs (nI_clamp (show (i + 1) < 2 ^ 31 by omega))) ?_
  refine lv_aload_n hx hb dL_law_635 rfl (lv_at hl 0 rfl) ?_
  refine lv_iload hx hb dL_law_636 (lv_at hl 4 rfl) ?_
  refine lv_iconst (v := nI 2) hx hb dL_law_638 (by decide) ?_
  refine lv_iadd hx hb dL_law_639 ?_
  refine zw_ti (nI_add _ _) ?_
  refine va_sld hx hb hX hbl hbA hS (vp_in_nI (show (i + 2) < len by omega) (by omega)) dL_law_640 ?_
  refine zw_ti (congrArg xs (nI_clamp (show (i + 2) < 2 ^ 31 by omega))) ?_
  refine zr_Vi (As := [.int (xs (i + 1)), .int (xs (i + 2))]) (rest := []) (q := (RC, TC, 14)) (mc := 0) (ms := 0) ⟨hx, hb, hml, hown, hz⟩ (hC M _ qs g hCR) (zt_V zm_106 zm_107 zm_108 zm_1 zm_109) rfl rfl rfl (show _ ∧ _ ∧ _ ∧ _ = some 2 from by decide +kernel) ⟨Nat.le_of_ble_eq_true rfl, Nat.le_of_ble_eq_true rfl⟩ zE_blind (zE_at hE hS) hH hK hCR.obj rfl rfl hS hl.1 rfl (Nat.le_of_ble_eq_true rfl) dL_law_641 ⟨(show cells + 0 ≤ 601024 by omega), (show slots + 0 ≤ 7293000 by omega)⟩ (fun r1 M1 sz1 H1 L1 hp hH hz1 hz2 hS => ?_)
  obtain ⟨hr1, ⟨qs1, g1, hCR⟩, hfm, hs1⟩ := hp
  subst hr1
  have hRR : zRR G M1 xr zr n mb st th pt Y := hRR.to2 (fun q9 e9 h9 h8 => (hfm q9 (by omega) (Or.inr (by omega)) (by omega)).trans h8)
  have hML : M1 L = some (.inl (G.2.1 1, 1, .inr (.inl f0))) := (hfm L (by omega) (Or.inr (by omega)) hLs).trans hML
  have hLs : L < H1.size := by omega
  refine lv_aload_n hx hb dL_law_644 rfl (lv_at hl 2 rfl) ?_
  refine lv_aload_n hx hb dL_law_645 rfl (lv_at hl 0 rfl) ?_
  refine lv_iload hx hb dL_law_646 (lv_at hl 4 rfl) ?_
  refine lv_iconst (v := nI 1) hx hb dL_law_648 (by decide) ?_
  refine lv_iadd hx hb dL_law_649 ?_
  refine zw_ti (nI_add _ _) ?_
  refine va_sld hx hb hX hbl hbA hS (vp_in_nI (show (i + 1) < len by omega) (by omega)) dL_law_650 ?_
  refine zw_ti (congrArg xs (nI_clamp (show (i + 1) < 2 ^ 31 by omega))) ?_
  refine lv_aload_n hx hb dL_law_651 rfl (lv_at hl 0 rfl) ?_
  refine lv_iload hx hb dL_law_652 (lv_at hl 4 rfl) ?_
  refine lv_iconst (v := nI 2) hx hb dL_law_654 (by decide) ?_
  refine lv_iadd hx hb dL_law_655 ?_
  refine zw_ti (nI_add _ _) ?_
  refine va_sld hx hb hX hbl hbA hS (vp_in_nI (show (i + 2) < len by omega) (by omega)) dL_law_656 ?_
  refine zw_ti (congrArg xs (nI_clamp (show (i + 2) < 2 ^ 31 by omega))) ?_
  refine zr_Vi (As := [.int (xs (i + 1)), .int (xs (i + 2))]) (rest := [.int r1]) (q := (RR, TR, 22)) (mc := 0) (ms := 0) ⟨hx, hb, hml, hown, hz⟩ (hF M1 _ th pt Y hRR) (zt_V zm_545 zm_546 zm_547 zm_3 zm_548) rfl rfl rfl (show _ ∧ _ ∧ _ ∧ _ = some 2 from by decide +kernel) ⟨Nat.le_of_ble_eq_true rfl, Nat.le_of_ble_eq_true rfl⟩ zE_blind (zE_at hE hS) hH hK hRR.obj rfl rfl hS hl.1 rfl (Nat.le_of_ble_eq_true rfl) dL_law_657 ⟨(show cells + 0 + 0 ≤ 601024 by omega), (show slots + 0 + 0 ≤ 7293000 by omega)⟩ (fun r2 M2 sz2 H2 L2 hp hH hz3 hz4 hS => ?_)
  obtain ⟨hr2, ⟨pt2, Y2, hRR⟩, hrf, hs2⟩ := hp
  subst hr2
  have hCR : zCR G M2 x z L n mb st1 qs1 g1 := hCR.to (fun q9 e9 h9 h8 => (hrf q9 (by omega) (by omega)).trans h8)
  have hML : M2 L = some (.inl (G.2.1 1, 1, .inr (.inl f0))) := (hrf L (by omega) (by omega)).trans hML
  have hLs : L < H2.size := by omega
  refine lv_icmp_eq (tgt := 783) hx hb dL_law_660 (by decide) (fun b3 => ?_) (fun b3 => ?_)
  · refine W.widen (k := cells + 960) (n := slots + 3360) (by omega) (by omega) ?_
    exact kk M2 _ _ st1 ls hok1 ⟨hH, hS, hLs, ⟨_, _, hCR⟩, ⟨_, _, _, hRR⟩, f0, hML⟩ (lv_sub hl [0, 1, 2, 3, 4] rfl)
  · exact absurd rfl b3
set_option maxHeartbeats 8000000 in
set_option maxRecDepth 100000 in
theorem law_weight {p : Program} {l : Launch} {e : Env} {s : State} {m : MethodId} {below : List Frame} {meth : Method} {c : Code} {G : zG} {b len : Nat} {xs : Nat → Int32} (C0 : zLC p l s m meth c b len xs G) {x z L n mb xr zr : Nat} (lay : zLay x z L n mb xr zr) {st : zSt} (hok : zOK n st) {i : Nat} (hi : i + 3 ≤ len) {M : zw_M} {H : Heap} {locs : List Loc} {cells slots : Nat} {Q : State → Prop} (hce : cells + 960 ≤ 601024) (hsl : slots + 3360 ≤ 7293000) (hI : zIV G x z L n mb xr zr s.heap st M H locs) {ls : Array Slot} (hl : lv_has ls 8 [(0, .ref b), (1, .ref x), (2, .ref xr), (3, .ref L), (4, .int (nI i))])
    (kk : ∀ (M1 : zw_M) (H1 : Heap) (locs1 : List Loc) (st1 : zSt) (ls1 : Array Slot), zOK n st1 → zIV G x z L n mb xr zr s.heap st1 M1 H1 locs1 → lv_has ls1 8 [(0, .ref b), (1, .ref x), (2, .ref xr), (3, .ref L), (4, .int (nI i))] → W p l e room_1 s m #[Value.ref b] below meth c H1 locs1 (cells + 960) (slots + 3360) Q (F0 m 783 ls1 [])) : W p l e room_1 s m #[Value.ref b] below meth c H locs cells slots Q (F0 m 665 ls []) := by
  obtain ⟨hx, hb, hr, hml, hown, hz, hX, hbl, hlocks, hEN, hlen, hflag⟩ := C0
  have hE := hEN.1
  obtain ⟨y1, y2, y3, y4, y5, y6, y7⟩ := lay
  obtain ⟨hH, hS, hLs, ⟨qs, g, hCR⟩, ⟨th, pt, Y, hRR⟩, f0, hML⟩ := hI
  have hK := hE.1
  have hbA : ¬ zw_A s.heap.size b := Nat.not_le.mpr hbl
  obtain ⟨rb, st1, hok1, hC, hF⟩ := mk_weight l hflag G s.heap.size x z L n mb xr zr st y5 y6 y7 hok (xs (i + 1)) (xs (i + 2))
  refine lv_aload_n hx hb dL_law_665 rfl (lv_at hl 1 rfl) ?_
  refine lv_aload_n hx hb dL_law_666 rfl (lv_at hl 0 rfl) ?_
  refine lv_iload hx hb dL_law_667 (lv_at hl 4 rfl) ?_
  refine lv_iconst (v := nI 1) hx hb dL_law_669 (by decide) ?_
  refine lv_iadd hx hb dL_law_670 ?_
  refine zw_ti (nI_add _ _) ?_
  refine va_sld hx hb hX hbl hbA hS (vp_in_nI (show (i + 1) < len by omega) (by omega)) dL_law_671 ?_
  refine zw_ti (congrArg xs (nI_clamp (show (i + 1) < 2 ^ 31 by omega))) ?_
  refine lv_aload_n hx hb dL_law_672 rfl (lv_at hl 0 rfl) ?_
  refine lv_iload hx hb dL_law_673 (lv_at hl 4 rfl) ?_
  refine lv_iconst (v := nI 2) hx hb dL_law_675 (by decide) ?_
  refine lv_iadd hx hb dL_law_676 ?_
  refine zw_ti (nI_add _ _) ?_
  refine va_sld hx hb hX hbl hbA hS (vp_in_nI (show (i + 2) < len by omega) (by omega)) dL_law_677 ?_
  refine zw_ti (congrArg xs (nI_clamp (show (i + 2) < 2 ^ 31 by omega))) ?_
  refine zr_Vi (As := [.int (xs (i + 1)), .int (xs (i + 2))]) (rest := []) (q := (RC, TC, 14)) (mc := 0) (ms := 0) ⟨hx, hb, hml, hown, hz⟩ (hC M _ qs g hCR) (zt_V zm_110 zm_111 zm_112 zm_1 zm_113) rfl rfl rfl (show _ ∧ _ ∧ _ ∧ _ = some 2 from by decide +kernel) ⟨Nat.le_of_ble_eq_true rfl, Nat.le_of_ble_eq_true rfl⟩ zE_blind (zE_at hE hS) hH hK hCR.obj rfl rfl hS hl.1 rfl (Nat.le_of_ble_eq_true rfl) dL_law_678 ⟨(show cells + 0 ≤ 601024 by omega), (show slots + 0 ≤ 7293000 by omega)⟩ (fun r1 M1 sz1 H1 L1 hp hH hz1 hz2 hS => ?_)
  obtain ⟨hr1, ⟨qs1, g1, hCR⟩, hfm, hs1⟩ := hp
  subst hr1
  have hRR : zRR G M1 xr zr n mb st th pt Y := hRR.to2 (fun q9 e9 h9 h8 => (hfm q9 (by omega) (Or.inr (by omega)) (by omega)).trans h8)
  have hML : M1 L = some (.inl (G.2.1 1, 1, .inr (.inl f0))) := (hfm L (by omega) (Or.inr (by omega)) hLs).trans hML
  have hLs : L < H1.size := by omega
  refine lv_aload_n hx hb dL_law_681 rfl (lv_at hl 2 rfl) ?_
  refine lv_aload_n hx hb dL_law_682 rfl (lv_at hl 0 rfl) ?_
  refine lv_iload hx hb dL_law_683 (lv_at hl 4 rfl) ?_
  refine lv_iconst (v := nI 1) hx hb dL_law_685 (by decide) ?_
  refine lv_iadd hx hb dL_law_686 ?_
  refine zw_ti (nI_add _ _) ?_
  refine va_sld hx hb hX hbl hbA hS (vp_in_nI (show (i + 1) < len by omega) (by omega)) dL_law_687 ?_
  refine zw_ti (congrArg xs (nI_clamp (show (i + 1) < 2 ^ 31 by omega))) ?_
  refine lv_aload_n hx hb dL_law_688 rfl (lv_at hl 0 rfl) ?_
  refine lv_iload hx hb dL_law_689 (lv_at hl 4 rfl) ?_
  refine lv_iconst (v := nI 2) hx hb dL_law_691 (by decide) ?_
  refine lv_iadd hx hb dL_law_692 ?_
  refine zw_ti (nI_add _ _) ?_
  refine va_sld hx hb hX hbl hbA hS (vp_in_nI (show (i + 2) < len by omega) (by omega)) dL_law_693 ?_
  refine zw_ti (congrArg xs (nI_clamp (show (i + 2) < 2 ^ 31 by omega))) ?_
  refine zr_Vi (As := [.int (xs (i + 1)), .int (xs (i + 2))]) (rest := [.int r1]) (q := (RR, TR, 22)) (mc := 0) (ms := 0) ⟨hx, hb, hml, hown, hz⟩ (hF M1 _ th pt Y hRR) (zt_V zm_549 zm_550 zm_551 zm_3 zm_552) rfl rfl rfl (show _ ∧ _ ∧ _ ∧ _ = some 2 from by decide +kernel) ⟨Nat.le_of_ble_eq_true rfl, Nat.le_of_ble_eq_true rfl⟩ zE_blind (zE_at hE hS) hH hK hRR.obj rfl rfl hS hl.1 rfl (Nat.le_of_ble_eq_true rfl) dL_law_694 ⟨(show cells + 0 + 0 ≤ 601024 by omega), (show slots + 0 + 0 ≤ 7293000 by omega)⟩ (fun r2 M2 sz2 H2 L2 hp hH hz3 hz4 hS => ?_)
  obtain ⟨hr2, ⟨pt2, Y2, hRR⟩, hrf, hs2⟩ := hp
  subst hr2
  have hCR : zCR G M2 x z L n mb st1 qs1 g1 := hCR.to (fun q9 e9 h9 h8 => (hrf q9 (by omega) (by omega)).trans h8)
  have hML : M2 L = some (.inl (G.2.1 1, 1, .inr (.inl f0))) := (hrf L (by omega) (by omega)).trans hML
  have hLs : L < H2.size := by omega
  refine lv_icmp_eq (tgt := 783) hx hb dL_law_697 (by decide) (fun b3 => ?_) (fun b3 => ?_)
  · refine W.widen (k := cells + 960) (n := slots + 3360) (by omega) (by omega) ?_
    exact kk M2 _ _ st1 ls hok1 ⟨hH, hS, hLs, ⟨_, _, hCR⟩, ⟨_, _, _, hRR⟩, f0, hML⟩ (lv_sub hl [0, 1, 2, 3, 4] rfl)
  · exact absurd rfl b3
set_option maxHeartbeats 8000000 in
set_option maxRecDepth 100000 in
theorem law_lacks {p : Program} {l : Launch} {e : Env} {s : State} {m : MethodId} {below : List Frame} {meth : Method} {c : Code} {G : zG} {b len : Nat} {xs : Nat → Int32} (C0 : zLC p l s m meth c b len xs G) {x z L n mb xr zr : Nat} (lay : zLay x z L n mb xr zr) {st : zSt} (hok : zOK n st) {i : Nat} (hi : i + 3 ≤ len) {M : zw_M} {H : Heap} {locs : List Loc} {cells slots : Nat} {Q : State → Prop} (hce : cells + 960 ≤ 601024) (hsl : slots + 3360 ≤ 7293000) (hI : zIV G x z L n mb xr zr s.heap st M H locs) {ls : Array Slot} (hl : lv_has ls 8 [(0, .ref b), (1, .ref x), (2, .ref xr), (3, .ref L), (4, .int (nI i))])
    (kk : ∀ (M1 : zw_M) (H1 : Heap) (locs1 : List Loc) (st1 : zSt) (ls1 : Array Slot), zOK n st1 → zIV G x z L n mb xr zr s.heap st1 M1 H1 locs1 → lv_has ls1 8 [(0, .ref b), (1, .ref x), (2, .ref xr), (3, .ref L), (4, .int (nI i))] → W p l e room_1 s m #[Value.ref b] below meth c H1 locs1 (cells + 960) (slots + 3360) Q (F0 m 783 ls1 [])) : W p l e room_1 s m #[Value.ref b] below meth c H locs cells slots Q (F0 m 702 ls []) := by
  obtain ⟨hx, hb, hr, hml, hown, hz, hX, hbl, hlocks, hEN, hlen, hflag⟩ := C0
  have hE := hEN.1
  obtain ⟨y1, y2, y3, y4, y5, y6, y7⟩ := lay
  obtain ⟨hH, hS, hLs, ⟨qs, g, hCR⟩, ⟨th, pt, Y, hRR⟩, f0, hML⟩ := hI
  have hK := hE.1
  have hbA : ¬ zw_A s.heap.size b := Nat.not_le.mpr hbl
  obtain ⟨k, rb, st1, hk3, hok1, hC, hF⟩ := mk_lacks l hflag G s.heap.size x z L n mb xr zr st y5 y6 y7 hok (xs (i + 1))
  refine lv_aload_n hx hb dL_law_702 rfl (lv_at hl 1 rfl) ?_
  refine lv_aload_n hx hb dL_law_703 rfl (lv_at hl 0 rfl) ?_
  refine lv_iload hx hb dL_law_704 (lv_at hl 4 rfl) ?_
  refine lv_iconst (v := nI 1) hx hb dL_law_706 (by decide) ?_
  refine lv_iadd hx hb dL_law_707 ?_
  refine zw_ti (nI_add _ _) ?_
  refine va_sld hx hb hX hbl hbA hS (vp_in_nI (show (i + 1) < len by omega) (by omega)) dL_law_708 ?_
  refine zw_ti (congrArg xs (nI_clamp (show (i + 1) < 2 ^ 31 by omega))) ?_
  refine lv_aload_n hx hb dL_law_709 rfl (lv_at hl 3 rfl) ?_
  refine zr_SW (As := [.ref x, .int (xs (i + 1)), .ref L]) (rest := []) (mc := 960) (ms := 3360) ⟨hx, hb, hml, hown, hz⟩ (hC M _ qs g f0 hCR hML (by omega) hLs) (zt_W zm_376) rfl rfl rfl (hz _ zm_0) (hz _ zm_374) (hz _ zm_375) (show _ ∧ _ ∧ _ = some 3 from by decide +kernel) ⟨Nat.le_of_ble_eq_true rfl, Nat.le_of_ble_eq_true rfl⟩ zEN_blind (zEN_at hEN hS) hH hS hl.1 rfl (Nat.le_of_ble_eq_true rfl) dL_law_710 ⟨hce, hsl⟩ (fun r1 M1 sz1 H1 L1 hp hH hz1 hz2 hS => ?_)
  obtain ⟨hr1, ⟨qs1, g1, hCR⟩, hfm, hs1, f1, hML, hf1⟩ := hp
  subst hr1
  have hRR : zRR G M1 xr zr n mb st th pt Y := hRR.to2 (fun q9 e9 h9 h8 => (hfm q9 (by omega) (by omega) (Or.inr (by omega)) (by omega)).trans h8)
  have hLs : L < H1.size := by omega
  refine lv_istore (lv' := [(5, .int (nI k)), (0, .ref b), (1, .ref x), (2, .ref xr), (3, .ref L), (4, .int (nI i))]) hx hb dL_law_713 hl (by decide) rfl (fun ls hl => ?_)
  refine lv_aload_n hx hb dL_law_715 rfl (lv_at hl 3 rfl) ?_
  refine lv_aload_n hx hb dL_law_716 rfl (lv_at hl 1 rfl) ?_
  refine lv_iload hx hb dL_law_717 (lv_at hl 5 rfl) ?_
  refine lv_iconst (v := nI 1) hx hb dL_law_719 (by decide) ?_
  refine lv_iadd hx hb dL_law_720 ?_
  refine zw_ti (nI_add _ _) ?_
  refine va_sld hx hb hX hbl hbA hS (vp_in_nI (show (i + 1) < len by omega) (by omega)) dL_law_721 ?_
  refine zw_ti (congrArg xs (nI_clamp (show (i + 1) < 2 ^ 31 by omega))) ?_
  refine zr_Vi (As := [.int (xs (i + 1))]) (rest := []) (q := (RR, TR, 22)) (mc := 0) (ms := 0) ⟨hx, hb, hml, hown, hz⟩ (hF M1 _ th pt Y hRR) (zt_V zm_553 zm_554 zm_555 zm_3 zm_556) rfl rfl rfl (show _ ∧ _ ∧ _ ∧ _ = some 1 from by decide +kernel) ⟨Nat.le_of_ble_eq_true rfl, Nat.le_of_ble_eq_true rfl⟩ zE_blind (zE_at hE hS) hH hK hRR.obj rfl rfl hS hl.1 rfl (Nat.le_of_ble_eq_true rfl) dL_law_722 ⟨(show cells + 960 + 0 ≤ 601024 by omega), (show slots + 3360 + 0 ≤ 7293000 by omega)⟩ (fun r2 M2 sz2 H2 L2 hp hH hz3 hz4 hS => ?_)
  obtain ⟨hr2, ⟨pt2, Y2, hRR⟩, hrf, hs2⟩ := hp
  subst hr2
  have hCR : zCR G M2 x z L n mb st1 qs1 g1 := hCR.to (fun q9 e9 h9 h8 => (hrf q9 (by omega) (by omega)).trans h8)
  have hML : M2 L = some (.inl (G.2.1 1, 1, .inr (.inl f1))) := (hrf L (by omega) (by omega)).trans hML
  have hLs : L < H2.size := by omega
  refine lv_istore (lv' := [(6, .int r2), (5, .int (nI k)), (0, .ref b), (1, .ref x), (2, .ref xr), (3, .ref L), (4, .int (nI i))]) hx hb dL_law_725 hl (by decide) rfl (fun ls hl => ?_)
  refine lv_aload_n hx hb dL_law_727 rfl (lv_at hl 4 rfl) ?_
  refine zr_V (As := []) (rest := []) (q := (RR, TR, 22)) ⟨hx, hb, hml, hown, hz⟩ (kR_thrown l G s.heap.size M2 xr zr n mb st1 k pt2 Y2 y6 hRR) (zt_V zm_455 zm_456 zm_457 zm_3 zm_458) rfl rfl rfl (show _ ∧ _ ∧ _ ∧ _ = some 0 from by decide +kernel) ⟨Nat.le_of_ble_eq_true rfl, Nat.le_of_ble_eq_true rfl⟩ zE_blind (zE_at hE hS) hH hK hRR.obj rfl rfl hl.1 rfl (Nat.le_of_ble_eq_true rfl) dL_law_728 ⟨(show cells + 960 + 0 ≤ 601024 by omega), (show slots + 3360 + 0 ≤ 7293000 by omega)⟩ ?_
  refine lv_iload hx hb dL_law_731 (lv_at hl 1 rfl) ?_
  refine zc_eq (tgt := 738) hx hb dL_law_733 (by decide) (by omega) (by omega) (fun b1 => ?_) (fun b1 => ?_)
  · refine lv_iload hx hb dL_law_738 (lv_at hl 1 rfl) ?_
    refine zc_ne0 (tgt := 755) hx hb dL_law_740 (by decide) (by omega) (fun b2 => ?_) (fun b2 => ?_)
    · refine lv_goto (tgt := 783) hx hb dL_law_755 (by decide) ?_
      refine W.widen (k := cells + 960) (n := slots + 3360) (by omega) (by omega) ?_
      exact kk M2 _ _ st1 ls hok1 ⟨hH, hS, hLs, ⟨_, _, hCR⟩, ⟨_, _, _, hRR⟩, f1, hML⟩ (lv_sub hl [2, 3, 4, 5, 6] rfl)
    · refine lv_aload_n hx hb dL_law_743 rfl (lv_at hl 5 rfl) ?_
      refine lv_iconst (v := nI 0) hx hb dL_law_744 (by decide) ?_
      refine zw_lald hx hb hK hH 1 hML rfl (0) rfl (by decide) (by decide) dL_law_745 ?_
      refine lv_iload hx hb dL_law_746 (lv_at hl 0 rfl) ?_
      refine lv_i2l hx hb dL_law_748 rfl ?_
      refine W.lcmp hx hb dL_law_749 ?_
      refine lv_if_eq (tgt := 755) hx hb dL_law_750 (by decide) (fun b3 => ?_) (fun b3 => ?_)
      · refine lv_goto (tgt := 783) hx hb dL_law_755 (by decide) ?_
        refine W.widen (k := cells + 960) (n := slots + 3360) (by omega) (by omega) ?_
        exact kk M2 _ _ st1 ls hok1 ⟨hH, hS, hLs, ⟨_, _, hCR⟩, ⟨_, _, _, hRR⟩, f1, hML⟩ (lv_sub hl [2, 3, 4, 5, 6] rfl)
      · exact absurd ((lg_cmp_eq _ _).mpr (hf1 b2)) b3
  · exact absurd rfl b1
set_option maxHeartbeats 8000000 in
set_option maxRecDepth 100000 in
theorem law_look {p : Program} {l : Launch} {e : Env} {s : State} {m : MethodId} {below : List Frame} {meth : Method} {c : Code} {G : zG} {b len : Nat} {xs : Nat → Int32} (C0 : zLC p l s m meth c b len xs G) {x z L n mb xr zr : Nat} (lay : zLay x z L n mb xr zr) {st : zSt} (hok : zOK n st) {i : Nat} (hi : i + 3 ≤ len) {M : zw_M} {H : Heap} {locs : List Loc} {cells slots : Nat} {Q : State → Prop} (hce : cells + 960 ≤ 601024) (hsl : slots + 3360 ≤ 7293000) (hI : zIV G x z L n mb xr zr s.heap st M H locs) {ls : Array Slot} (hl : lv_has ls 8 [(0, .ref b), (1, .ref x), (2, .ref xr), (3, .ref L), (4, .int (nI i))])
    (kk : ∀ (M1 : zw_M) (H1 : Heap) (locs1 : List Loc) (st1 : zSt) (ls1 : Array Slot), zOK n st1 → zIV G x z L n mb xr zr s.heap st1 M1 H1 locs1 → lv_has ls1 8 [(0, .ref b), (1, .ref x), (2, .ref xr), (3, .ref L), (4, .int (nI i))] → W p l e room_1 s m #[Value.ref b] below meth c H1 locs1 (cells + 960) (slots + 3360) Q (F0 m 783 ls1 [])) : W p l e room_1 s m #[Value.ref b] below meth c H locs cells slots Q (F0 m 758 ls []) := by
  obtain ⟨hx, hb, hr, hml, hown, hz, hX, hbl, hlocks, hEN, hlen, hflag⟩ := C0
  have hE := hEN.1
  obtain ⟨y1, y2, y3, y4, y5, y6, y7⟩ := lay
  obtain ⟨hH, hS, hLs, ⟨qs, g, hCR⟩, ⟨th, pt, Y, hRR⟩, f0, hML⟩ := hI
  have hK := hE.1
  have hbA : ¬ zw_A s.heap.size b := Nat.not_le.mpr hbl
  obtain ⟨rb, st1, hok1, hC, hF⟩ := mk_look l hflag G s.heap.size x z L n mb xr zr st y5 y6 y7 hok (xs (i + 1))
  refine lv_aload_n hx hb dL_law_758 rfl (lv_at hl 1 rfl) ?_
  refine lv_aload_n hx hb dL_law_759 rfl (lv_at hl 0 rfl) ?_
  refine lv_iload hx hb dL_law_760 (lv_at hl 4 rfl) ?_
  refine lv_iconst (v := nI 1) hx hb dL_law_762 (by decide) ?_
  refine lv_iadd hx hb dL_law_763 ?_
  refine zw_ti (nI_add _ _) ?_
  refine va_sld hx hb hX hbl hbA hS (vp_in_nI (show (i + 1) < len by omega) (by omega)) dL_law_764 ?_
  refine zw_ti (congrArg xs (nI_clamp (show (i + 1) < 2 ^ 31 by omega))) ?_
  refine zr_Vi (As := [.int (xs (i + 1))]) (rest := []) (q := (RC, TC, 14)) (mc := 0) (ms := 0) ⟨hx, hb, hml, hown, hz⟩ (hC M _ qs g hCR) (zt_V zm_121 zm_122 zm_123 zm_1 zm_124) rfl rfl rfl (show _ ∧ _ ∧ _ ∧ _ = some 1 from by decide +kernel) ⟨Nat.le_of_ble_eq_true rfl, Nat.le_of_ble_eq_true rfl⟩ zE_blind (zE_at hE hS) hH hK hCR.obj rfl rfl hS hl.1 rfl (Nat.le_of_ble_eq_true rfl) dL_law_765 ⟨(show cells + 0 ≤ 601024 by omega), (show slots + 0 ≤ 7293000 by omega)⟩ (fun r1 M1 sz1 H1 L1 hp hH hz1 hz2 hS => ?_)
  obtain ⟨hr1, ⟨qs1, g1, hCR⟩, hfm, hs1⟩ := hp
  subst hr1
  have hRR : zRR G M1 xr zr n mb st th pt Y := hRR.to2 (fun q9 e9 h9 h8 => (hfm q9 (by omega) (Or.inr (by omega)) (by omega)).trans h8)
  have hML : M1 L = some (.inl (G.2.1 1, 1, .inr (.inl f0))) := (hfm L (by omega) (Or.inr (by omega)) hLs).trans hML
  have hLs : L < H1.size := by omega
  refine lv_aload_n hx hb dL_law_768 rfl (lv_at hl 2 rfl) ?_
  refine lv_aload_n hx hb dL_law_769 rfl (lv_at hl 0 rfl) ?_
  refine lv_iload hx hb dL_law_770 (lv_at hl 4 rfl) ?_
  refine lv_iconst (v := nI 1) hx hb dL_law_772 (by decide) ?_
  refine lv_iadd hx hb dL_law_773 ?_
  refine zw_ti (nI_add _ _) ?_
  refine va_sld hx hb hX hbl hbA hS (vp_in_nI (show (i + 1) < len by omega) (by omega)) dL_law_774 ?_
  refine zw_ti (congrArg xs (nI_clamp (show (i + 1) < 2 ^ 31 by omega))) ?_
  refine zr_Vi (As := [.int (xs (i + 1))]) (rest := [.int r1]) (q := (RR, TR, 22)) (mc := 0) (ms := 0) ⟨hx, hb, hml, hown, hz⟩ (hF M1 _ th pt Y hRR) (zt_V zm_561 zm_562 zm_563 zm_3 zm_564) rfl rfl rfl (show _ ∧ _ ∧ _ ∧ _ = some 1 from by decide +kernel) ⟨Nat.le_of_ble_eq_true rfl, Nat.le_of_ble_eq_true rfl⟩ zE_blind (zE_at hE hS) hH hK hRR.obj rfl rfl hS hl.1 rfl (Nat.le_of_ble_eq_true rfl) dL_law_775 ⟨(show cells + 0 + 0 ≤ 601024 by omega), (show slots + 0 + 0 ≤ 7293000 by omega)⟩ (fun r2 M2 sz2 H2 L2 hp hH hz3 hz4 hS => ?_)
  obtain ⟨hr2, ⟨pt2, Y2, hRR⟩, hrf, hs2⟩ := hp
  subst hr2
  have hCR : zCR G M2 x z L n mb st1 qs1 g1 := hCR.to (fun q9 e9 h9 h8 => (hrf q9 (by omega) (by omega)).trans h8)
  have hML : M2 L = some (.inl (G.2.1 1, 1, .inr (.inl f0))) := (hrf L (by omega) (by omega)).trans hML
  have hLs : L < H2.size := by omega
  refine lv_icmp_eq (tgt := 783) hx hb dL_law_778 (by decide) (fun b3 => ?_) (fun b3 => ?_)
  · refine W.widen (k := cells + 960) (n := slots + 3360) (by omega) (by omega) ?_
    exact kk M2 _ _ st1 ls hok1 ⟨hH, hS, hLs, ⟨_, _, hCR⟩, ⟨_, _, _, hRR⟩, f0, hML⟩ (lv_sub hl [0, 1, 2, 3, 4] rfl)
  · exact absurd rfl b3
set_option maxHeartbeats 8000000 in
set_option maxRecDepth 100000 in
theorem law_loop {p : Program} {l : Launch} {e : Env} {s : State} {m : MethodId} {below : List Frame} {meth : Method} {c : Code} {G : zG} {b len : Nat} {xs : Nat → Int32} (C0 : zLC p l s m meth c b len xs G) {x z L n mb xr zr : Nat} (lay : zLay x z L n mb xr zr) :
    ∀ (f t : Nat), 513 ≤ t + f → t ≤ 512 → ∀ (st : zSt) (M : zw_M) (H : Heap) (locs : List Loc), zOK n st → zIV G x z L n mb xr zr s.heap st M H locs → ∀ (ls : Array Slot), lv_has ls 8 [(0, .ref b), (1, .ref x), (2, .ref xr), (3, .ref L), (4, .int (nI (2 + 3 * t)))] → W p l e room_1 s m #[Value.ref b] below meth c H locs (39 + 960 * t) (68237 + 3360 * t) (lw_Z below #[Value.ref b] s) (F0 m 43 ls []) := by
  intro f
  induction f with
  | zero =>
    intro t h1 h2
    omega
  | succ f ih =>
      intro t h1 h2 st M H locs hok hI ls hl
      obtain ⟨hx, hb, hr, hml, hown, hz, hX, hbl, hlocks, hEN, hlen, hflag⟩ := id C0
      have hE := hEN.1
      have hS := hI.2.1
      have hbA : ¬ zw_A s.heap.size b := Nat.not_le.mpr hbl
      refine lv_iload hx hb dL_law_43 (lv_at hl 4 rfl) ?_
      refine lv_aload_n hx hb dL_law_45 rfl (lv_at hl 0 rfl) ?_
      refine va_slen hx hb hX hbl hbA hS dL_law_46 ?_
      refine zw_ti (v' := nI len) rfl ?_
      refine lv_iconst (v := nI 3) hx hb dL_law_47 (by decide) ?_
      refine lv_isub hx hb dL_law_48 ?_
      refine lv_icmp_gt (tgt := 789) hx hb dL_law_49 (by decide) (fun b1 => ?_) (fun b1 => ?_)
      · refine lv_iconst (v := nI 1) hx hb dL_law_789 (by decide) ?_
        refine va_forget (fun q hq => hS.2.2 q hq) ?_
        refine W.widen (k := 601024) (n := 7293000) (by omega) (by omega) ?_
        exact lw_ret hx hb hr hlocks dL_law_790
      · have hi := zsub3 (show 2 + 3 * t < 2 ^ 31 by omega) (show len < 2 ^ 31 by omega) b1
        have tail : ∀ (M1 : zw_M) (H1 : Heap) (locs1 : List Loc) (st1 : zSt) (ls1 : Array Slot), zOK n st1 → zIV G x z L n mb xr zr s.heap st1 M1 H1 locs1 → lv_has ls1 8 [(0, .ref b), (1, .ref x), (2, .ref xr), (3, .ref L), (4, .int (nI (2 + 3 * t)))] → W p l e room_1 s m #[Value.ref b] below meth c H1 locs1 (39 + 960 * t + 960) (68237 + 3360 * t + 3360) (lw_Z below #[Value.ref b] s) (F0 m 783 ls1 []) := by
          intro M1 H1 locs1 st1 ls hok1 hI1 hl
          refine lv_iinc (v := nI (2 + 3 * (t + 1))) (lv' := [(4, .int (nI (2 + 3 * (t + 1)))), (0, .ref b), (1, .ref x), (2, .ref xr), (3, .ref L)]) hx hb dL_law_783 hl (k := 4) rfl ((nI_add (2 + 3 * t) 3).trans (congrArg nI (show 2 + 3 * t + 3 = 2 + 3 * (t + 1) by omega))) (by decide) rfl (fun ls hl => ?_)
          refine lv_goto (tgt := 43) hx hb dL_law_786 (by decide) ?_
          refine W.widen (k := 39 + 960 * (t + 1)) (n := 68237 + 3360 * (t + 1)) (by omega) (by omega) ?_
          exact ih (t + 1) (by omega) (by omega) st1 M1 H1 locs1 hok1 hI1 ls (lv_sub hl [1, 2, 3, 4, 0] rfl)
        refine lv_aload_n hx hb dL_law_52 rfl (lv_at hl 0 rfl) ?_
        refine lv_iload hx hb dL_law_53 (lv_at hl 4 rfl) ?_
        refine va_sld hx hb hX hbl hbA hS (vp_in_nI (show 2 + 3 * t < len by omega) (by omega)) dL_law_55 ?_
        refine zw_ti (congrArg xs (nI_clamp (show 2 + 3 * t < 2 ^ 31 by omega))) ?_
        refine lv_bipush (v := nI 15) hx hb dL_law_56 (by decide) ?_
        refine lv_iand hx hb dL_law_58 ?_
        obtain ⟨wd, hwd, ewd⟩ := pk_andE (xs (2 + 3 * t)) (m := nI 15) 4 (by decide)
        refine zw_ti ewd ?_
        rcases (show wd = 0 ∨ wd = 1 ∨ wd = 2 ∨ wd = 3 ∨ wd = 4 ∨ wd = 5 ∨ wd = 6 ∨ wd = 7 ∨ wd = 8 ∨ wd = 9 ∨ wd = 10 ∨ wd = 11 ∨ wd = 12 ∨ wd = 13 ∨ wd = 14 ∨ wd = 15 by omega) with rfl | rfl | rfl | rfl | rfl | rfl | rfl | rfl | rfl | rfl | rfl | rfl | rfl | rfl | rfl | rfl
        · refine lv_tableIn (tgt := 128) hx hb dL_law_59 (by decide) (by decide) rfl (by decide) ?_
          exact law_make C0 lay hok hi (by omega) (by omega) hI hl tail
        · refine lv_tableIn (tgt := 196) hx hb dL_law_59 (by decide) (by decide) rfl (by decide) ?_
          exact law_tick C0 lay hok hi (by omega) (by omega) hI hl tail
        · refine lv_tableIn (tgt := 252) hx hb dL_law_59 (by decide) (by decide) rfl (by decide) ?_
          exact law_deliver C0 lay hok hi (by omega) (by omega) hI hl tail
        · refine lv_tableIn (tgt := 308) hx hb dL_law_59 (by decide) (by decide) rfl (by decide) ?_
          exact law_lose C0 lay hok hi (by omega) (by omega) hI hl tail
        · refine lv_tableIn (tgt := 333) hx hb dL_law_59 (by decide) (by decide) rfl (by decide) ?_
          exact law_twice C0 lay hok hi (by omega) (by omega) hI hl tail
        · refine lv_tableIn (tgt := 389) hx hb dL_law_59 (by decide) (by decide) rfl (by decide) ?_
          exact law_up C0 lay hok hi (by omega) (by omega) hI hl tail
        · refine lv_tableIn (tgt := 442) hx hb dL_law_59 (by decide) (by decide) rfl (by decide) ?_
          exact law_message C0 lay hok hi (by omega) (by omega) hI hl tail
        · refine lv_tableIn (tgt := 510) hx hb dL_law_59 (by decide) (by decide) rfl (by decide) ?_
          exact law_inside C0 lay hok hi (by omega) (by omega) hI hl tail
        · refine lv_tableIn (tgt := 547) hx hb dL_law_59 (by decide) (by decide) rfl (by decide) ?_
          exact law_told C0 lay hok hi (by omega) (by omega) hI hl tail
        · refine lv_tableIn (tgt := 573) hx hb dL_law_59 (by decide) (by decide) rfl (by decide) ?_
          exact law_clock C0 lay hok hi (by omega) (by omega) hI hl tail
        · refine lv_tableIn (tgt := 628) hx hb dL_law_59 (by decide) (by decide) rfl (by decide) ?_
          exact law_log C0 lay hok hi (by omega) (by omega) hI hl tail
        · refine lv_tableIn (tgt := 665) hx hb dL_law_59 (by decide) (by decide) rfl (by decide) ?_
          exact law_weight C0 lay hok hi (by omega) (by omega) hI hl tail
        · refine lv_tableIn (tgt := 702) hx hb dL_law_59 (by decide) (by decide) rfl (by decide) ?_
          exact law_lacks C0 lay hok hi (by omega) (by omega) hI hl tail
        · refine lv_tableIn (tgt := 758) hx hb dL_law_59 (by decide) (by decide) rfl (by decide) ?_
          exact law_look C0 lay hok hi (by omega) (by omega) hI hl tail
        · refine lv_tableOut (tgt := 783) hx hb dL_law_59 (by decide) (by decide) ?_
          refine W.widen (k := 39 + 960 * t + 960) (n := 68237 + 3360 * t + 3360) (by omega) (by omega) ?_
          exact tail M H locs st ls hok hI hl
        · refine lv_tableOut (tgt := 783) hx hb dL_law_59 (by decide) (by decide) ?_
          refine W.widen (k := 39 + 960 * t + 960) (n := 68237 + 3360 * t + 3360) (by omega) (by omega) ?_
          exact tail M H locs st ls hok hI hl
