/-! THE LAW'S HELPERS -/
theorem zt_W {w : Cond} (h : w ∈ zT) : GoodIn zT (w :: zT) := zt_goodT (fun v hv => (List.mem_cons.mp hv).elim (fun q => by rw [q]; exact h) id)
theorem zx_table {p : Program} {l : Launch} {y : MethodName} {ws : List Cond} {rm : Room} {cc : ByteArray} {maxL : Nat} {ret : Option FieldType} {hh : List (Nat × Nat × Nat × Nat)} {e : Env} {s : State} {m : MethodId} {args : Array Value} {below : List Frame} {meth : Method} {c : Code} {s₁ : State}
    (B0 : BodyLoose p l y (headSpec ws rm) cc maxL ret e s m args below meth c s₁) (hw : (Cond.codeWith y cc maxL ret hh).before args s = true) : c.exceptionTable.toList.map (fun h => (h.startPc, h.endPc, h.handlerPc, h.catchType)) = hh := by
  obtain ⟨m9, meth', c', h0, h1, h2, -, -, h3, -⟩ := Cond.codeWith_spec hw
  have X := Stand.of_body B0
  cases B0.named.symm.trans h0
  cases B0.method.symm.trans h1
  cases X.code.symm.trans h2
  exact h3
abbrev zx_row (x : ExceptionTableEntry) (q : Nat × Nat × Nat × Nat) : Prop := x.startPc = q.1 ∧ x.endPc = q.2.1 ∧ x.handlerPc = q.2.2.1 ∧ x.catchType = q.2.2.2
theorem zx_row_of {x : ExceptionTableEntry} {q : Nat × Nat × Nat × Nat} (h : (x.startPc, x.endPc, x.handlerPc, x.catchType) = q) : zx_row x q := by
  subst h; exact ⟨rfl, rfl, rfl, rfl⟩
theorem zx_t1 {L : List ExceptionTableEntry} {q1 : Nat × Nat × Nat × Nat} (h : L.map (fun h => (h.startPc, h.endPc, h.handlerPc, h.catchType)) = [q1]) : ∃ x1, L = [x1] ∧ zx_row x1 q1 := by
  obtain ⟨x1, t1, rfl, f1, r1⟩ := List.map_eq_cons_iff.mp h
  exact ⟨x1, by rw [List.map_eq_nil_iff.mp r1], zx_row_of f1⟩
theorem zx_t2 {L : List ExceptionTableEntry} {q1 q2 : Nat × Nat × Nat × Nat} (h : L.map (fun h => (h.startPc, h.endPc, h.handlerPc, h.catchType)) = [q1, q2]) : ∃ x1 x2, L = [x1, x2] ∧ zx_row x1 q1 ∧ zx_row x2 q2 := by
  obtain ⟨x1, t1, rfl, f1, r1⟩ := List.map_eq_cons_iff.mp h
  obtain ⟨x2, rfl, f2⟩ := zx_t1 r1
  exact ⟨x1, x2, rfl, zx_row_of f1, f2⟩
theorem zx_t3 {L : List ExceptionTableEntry} {q1 q2 q3 : Nat × Nat × Nat × Nat} (h : L.map (fun h => (h.startPc, h.endPc, h.handlerPc, h.catchType)) = [q1, q2, q3]) : ∃ x1 x2 x3, L = [x1, x2, x3] ∧ zx_row x1 q1 ∧ zx_row x2 q2 ∧ zx_row x3 q3 := by
  obtain ⟨x1, t1, rfl, f1, r1⟩ := List.map_eq_cons_iff.mp h
  obtain ⟨x2, x3, rfl, f2, f3⟩ := zx_t2 r1
  exact ⟨x1, x2, x3, rfl, zx_row_of f1, f2, f3⟩
/-- the environment of a helper: which throws a handler does not take -/
def zEN (G : zG) (B : Nat) (U : State) : Prop := zE G B U ∧ va_Nc "java/lang/IllegalArgumentException" "java/lang/IndexOutOfBoundsException" U ∧ va_Nc "java/lang/IllegalStateException" "java/lang/IndexOutOfBoundsException" U ∧ va_Nc "java/lang/IllegalStateException" "java/lang/IllegalArgumentException" U
theorem zEN_moved {G : zG} {B : Nat} {s U : State} {locs : List Loc} (h : zEN G B s) (hW : s.WarmedH U.vm) (hS : va_S (zw_A B) s.heap U.heap locs) : zEN G B U := ⟨zE_moved h.1 hW hS, va_Nc.moved hW.alike h.2.1, va_Nc.moved hW.alike h.2.2.1, va_Nc.moved hW.alike h.2.2.2⟩
theorem zEN_blind {G : zG} {B : Nat} (U : State) (g : JFrame) (mk : MethodId) (a : Array Value) (h : zEN G B U) : zEN G B (U.calling g mk a) := zEN_moved (U := U.calling g mk a) (locs := []) h (State.WarmedH.refl U) va_S.rf
theorem zEN_at {G : zG} {B : Nat} {s : State} {H : Heap} {locs : List Loc} (h : zEN G B s) (hS : va_S (zw_A B) s.heap H locs) (U : State) (hU : U.heap = H) (hW : s.WarmedH U.vm) : zEN G B U := zEN_moved h hW (by rw [hU]; exact hS)
/-- a helper's contract -/
abbrev zMn (l : Launch) (G : zG) (B : Nat) (M : zw_M) (sz : Nat) (y : MethodName) (ws : List Cond) (rm : Room) (av : List Value) (post : Int32 → zw_M × Nat → Prop) (mc ms : Nat) : Prop := Met l y ws rm (zr_q (zEN G B) G.1 zCl B M sz av) (va_Qi post (zr_o G.1 zCl B) (zw_A B)) mc ms (zw_A B)
theorem zMn.wide {l : Launch} {G : zG} {B : Nat} {M : zw_M} {sz : Nat} {y : MethodName} {ws : List Cond} {rm rm' : Room} {av : List Value} {post post' : Int32 → zw_M × Nat → Prop} {mc ms mc' ms' : Nat} (h : zMn l G B M sz y ws rm av post mc ms) (hr : rm.frames ≤ rm'.frames ∧ rm.locals ≤ rm'.locals ∧ rm.cells ≤ rm'.cells ∧ rm.slots ≤ rm'.slots) (hQ : ∀ r u, post r u → post' r u) (hmc : mc ≤ mc') (hms : ms ≤ ms') : zMn l G B M sz y ws rm' av post' mc' ms' :=
  zMet h hr (fun _ _ h => h) (fun _ _ _ _ _ hq => by obtain ⟨⟨r, u, e1, e2, e3⟩, hF⟩ := hq; exact ⟨⟨r, u, e1, hQ r u e2, e3⟩, hF⟩) hmc hms (fun _ h => h)
theorem zf_mem {w : Cond} (k : Nat) (h : tables_1[k]? = some w) (g : (w.keepsFace && w.onTables) = true) : w ∈ zF := List.mem_filter.mpr ⟨List.mem_append_right _ (List.mem_of_getElem? h), g⟩
theorem zC13 : Cond.castable "java/lang/IndexOutOfBoundsException" "java/lang/IndexOutOfBoundsException" ∈ zF := zf_mem 152 (by decide +kernel) (by decide +kernel)
theorem zC15 : Cond.castable "java/lang/IllegalArgumentException" "java/lang/IllegalArgumentException" ∈ zF := zf_mem 220 (by decide +kernel) (by decide +kernel)
theorem zC17 : Cond.castable "java/lang/IllegalStateException" "java/lang/IllegalStateException" ∈ zF := zf_mem 236 (by decide +kernel) (by decide +kernel)
set_option maxHeartbeats 4000000 in
set_option maxRecDepth 100000 in
theorem rL_make (l : Launch) (G : zG) (B : Nat) (M : zw_M) (sz x o : Nat) (fs : List Value) (hx0 : M x = some (.inr (1, fs))) (f0 : Nat → Int64) (ho : M o = some (.inl (G.2.1 1, 1, .inr (.inl f0)))) (a d : Int32) (post : Int32 → zw_M × Nat → Prop) (fr lo mc ms : Nat) (hfr : fr ≤ 6) (hlo : lo ≤ 140) (hmc : mc ≤ 960) (hms : ms ≤ 3360) (hM : zMi l G B M sz yC_make (Cond.code yC_make bC_make 5 (some .int) :: zT) { frames := fr, cells := mc, slots := ms, locals := lo } [.ref x, .int a, .int d] post mc ms) (hk : ∀ r u, post r u → u.1 o = M o) : zMn l G B M sz yL_make (Cond.codeWith yL_make bL_make 5 (some .int) [(0, 10, 13, 13), (0, 10, 17, 15), (0, 10, 21, 17)] :: zT) { frames := 7, cells := 960, slots := 3360, locals := 170 } [.ref x, .int a, .int d, .ref o] (fun r u => r = nI 0 ∧ ∃ v u1, post v u1 ∧ u.1 = zw_u u1.1 o (.inl (G.2.1 1, 1, .inr (.inl (vp_updL f0 0 v.toInt64)))) ∧ u.2 = u1.2) 960 3360 := by
  refine va_MetW (cc := bL_make) (maxL := 5) (ret := (some .int)) (hh := [(0, 10, 13, 13), (0, 10, 17, 15), (0, 10, 21, 17)]) (by decide) rfl ?_
  intro p e s m args below meth c s₁ B0 hml hv
  obtain ⟨rfl, ⟨hE, hN⟩, hH, hsz⟩ := hv
  subst hsz
  have hx := B0.exec
  have hb := B0.bytes
  have hr := B0.returns
  have hlocks := B0.notSynchronized
  have hz : ∀ w ∈ zT, w.before _ s = true := fun w h => atoms_spec (ws := Cond.codeWith yL_make bL_make 5 (some .int) [(0, 10, 13, 13), (0, 10, 17, 15), (0, 10, 21, 17)] :: zT) B0.pre w (List.mem_cons_of_mem _ h)
  have htb := zx_table B0 (atoms_spec (ws := Cond.codeWith yL_make bL_make 5 (some .int) [(0, 10, 13, 13), (0, 10, 17, 15), (0, 10, 21, 17)] :: zT) B0.pre _ List.mem_cons_self)
  have hown : s.vm.findClass RL = some m.cls := findClass_of_methodNamed B0.named
  have hK := hE.1
  have hl := lv_entry ([.ref x, .int a, .int d, .ref o]) (n := 5) (Nat.le_of_ble_eq_true rfl)
  rw [lg_entry_eq]
  generalize (lg_sl ([.ref x, .int a, .int d, .ref o]) ++ List.replicate (5 - (lg_sl ([.ref x, .int a, .int d, .ref o])).length) Slot.unset).toArray = ls at hl ⊢
  have hl : lv_has ls 5 [(0, .ref x), (1, .int a), (2, .int d), (3, .ref o)] := hl
  have hS : va_S (zw_A B) s.heap s.heap [] := va_S.rf
  refine lv_aload_n hx hb dL_make_0 rfl (lv_at hl 3 rfl) ?_
  refine lv_iconst (v := nI 0) hx hb dL_make_1 (by decide) ?_
  refine lv_aload_n hx hb dL_make_2 rfl (lv_at hl 0 rfl) ?_
  refine lv_iload_n hx hb dL_make_3 rfl (lv_at hl 1 rfl) ?_
  refine lv_iload_n hx hb dL_make_4 rfl (lv_at hl 2 rfl) ?_
  refine zr_Vi (As := [.int a, .int d]) (rest := [.int (nI 0), .ref o]) (q := (RC, TC, 14)) (mc := mc) (ms := ms) ⟨hx, hb, hml, hown, hz⟩ hM (zt_V zm_146 zm_147 zm_148 zm_1 zm_149) rfl rfl rfl (show _ ∧ _ ∧ _ ∧ _ = some 2 from by decide +kernel) ⟨(show fr + 1 ≤ 7 by omega), (show 8 + (5 + 11) + lo ≤ 170 by omega)⟩ zE_blind (zE_at hE hS) hH hK hx0 rfl rfl hS hl.1 rfl (Nat.le_of_ble_eq_true rfl) dL_make_5 ⟨(show 0 + mc ≤ 960 by omega), (show 0 + ms ≤ 3360 by omega)⟩ (fun r1 M1 sz1 H1 L1 hp hH hz1 hz2 hS => ?_)
  have ho1 : M1 o = some (.inl (G.2.1 1, 1, .inr (.inl f0))) := (hk r1 (M1, sz1) hp).trans ho
  refine lv_i2l hx hb dL_make_8 rfl ?_
  refine zw_last hx hb hK hH hS 1 ho1 rfl (0) rfl (by decide) (by decide) dL_make_9 (fun H2 L2 hH hz3 hS => ?_)
  refine lv_goto (tgt := 25) hx hb dL_make_10 (by decide) ?_
  refine lv_iconst (v := nI 0) hx hb dL_make_25 (by decide) ?_
  refine W.widen (k := 960) (n := 3360) (by omega) (by omega) ?_
  exact W.iret (v := nI 0) hx hb hr (fun t ht hW => ⟨⟨nI 0, (_, sz1), rfl, ⟨rfl, r1, (M1, sz1), hp, rfl, rfl⟩, by rw [ht]; exact hH, by rw [ht]; exact hz3.trans hz1⟩, hS.F ht⟩) hS.2.2 dL_make_26
set_option maxHeartbeats 4000000 in
set_option maxRecDepth 100000 in
theorem tL_make1 (l : Launch) (G : zG) (B : Nat) (M : zw_M) (sz x o : Nat) (fs : List Value) (hx0 : M x = some (.inr (1, fs))) (a d : Int32) (hM : zx_Met l yC_make (Cond.code yC_make bC_make 5 (some .int) :: zT) { frames := 6, cells := 1, slots := 6, locals := 82 } (zp G B M [.ref x, .int a, .int d]) "java/lang/IndexOutOfBoundsException" 1 6) : zMn l G B M sz yL_make (Cond.codeWith yL_make bL_make 5 (some .int) [(0, 10, 13, 13), (0, 10, 17, 15), (0, 10, 21, 17)] :: zT) { frames := 7, cells := 960, slots := 3360, locals := 170 } [.ref x, .int a, .int d, .ref o] (fun r u => r = nI 1 ∧ u.1 = M ∧ sz ≤ u.2) 960 3360 := by
  refine va_MetW (cc := bL_make) (maxL := 5) (ret := (some .int)) (hh := [(0, 10, 13, 13), (0, 10, 17, 15), (0, 10, 21, 17)]) (by decide) rfl ?_
  intro p e s m args below meth c s₁ B0 hml hv
  obtain ⟨rfl, ⟨hE, hN⟩, hH, hsz⟩ := hv
  subst hsz
  have hx := B0.exec
  have hb := B0.bytes
  have hr := B0.returns
  have hlocks := B0.notSynchronized
  have hz : ∀ w ∈ zT, w.before _ s = true := fun w h => atoms_spec (ws := Cond.codeWith yL_make bL_make 5 (some .int) [(0, 10, 13, 13), (0, 10, 17, 15), (0, 10, 21, 17)] :: zT) B0.pre w (List.mem_cons_of_mem _ h)
  have htb := zx_table B0 (atoms_spec (ws := Cond.codeWith yL_make bL_make 5 (some .int) [(0, 10, 13, 13), (0, 10, 17, 15), (0, 10, 21, 17)] :: zT) B0.pre _ List.mem_cons_self)
  have hown : s.vm.findClass RL = some m.cls := findClass_of_methodNamed B0.named
  have hK := hE.1
  have hl := lv_entry ([.ref x, .int a, .int d, .ref o]) (n := 5) (Nat.le_of_ble_eq_true rfl)
  rw [lg_entry_eq]
  generalize (lg_sl ([.ref x, .int a, .int d, .ref o]) ++ List.replicate (5 - (lg_sl ([.ref x, .int a, .int d, .ref o])).length) Slot.unset).toArray = ls at hl ⊢
  have hl : lv_has ls 5 [(0, .ref x), (1, .int a), (2, .int d), (3, .ref o)] := hl
  have hS : va_S (zw_A B) s.heap s.heap [] := va_S.rf
  refine lv_aload_n hx hb dL_make_0 rfl (lv_at hl 3 rfl) ?_
  refine lv_iconst (v := nI 0) hx hb dL_make_1 (by decide) ?_
  refine lv_aload_n hx hb dL_make_2 rfl (lv_at hl 0 rfl) ?_
  refine lv_iload_n hx hb dL_make_3 rfl (lv_at hl 1 rfl) ?_
  refine lv_iload_n hx hb dL_make_4 rfl (lv_at hl 2 rfl) ?_
  obtain ⟨x1, x2, x3, hsp, ⟨a1, b1, c1, d1⟩, ⟨a2, b2, c2, d2⟩, ⟨a3, b3, c3, d3⟩⟩ := zx_t3 htb
  refine zx_tryV (As := [.int a, .int d]) (rest := [.int (nI 0), .ref o]) (C := RC) ⟨hx, hb, hml, hown, hz⟩ hM (cwV 2 hz (zt_V zm_146 zm_147 zm_148 zm_1 zm_149) rfl rfl rfl (show _ ∧ _ ∧ _ ∧ _ = some 2 from by decide +kernel) ⟨(show 6 + 1 ≤ 7 by omega), (show 8 + (5 + 11) + 82 ≤ 170 by omega)⟩) ⟨zr_blindp zE_blind _, va_recv hK (hH.one hx0) (q0 := 0) (q := (RC, TC, 14)) rfl rfl, fun U hU hW => ⟨rfl, zE_at hE hS U hU hW, by rw [hU]; exact hH⟩⟩ rfl hl.1 rfl (Nat.le_of_ble_eq_true rfl) dL_make_5 ⟨(show 0 + 1 ≤ 960 by omega), (show 0 + 6 ≤ 3360 by omega)⟩ [] x1 [x2, x3] hsp (fun z hz => absurd hz List.not_mem_nil) (by unfold covers; rw [a1, b1]; rfl) (by rw [d1]; decide) (nm := "java/lang/IndexOutOfBoundsException") (by rw [d1]; exact hz _ zm_143) (va_any rfl (hE.2.2.2.2.1 _ zC13)) (fun H1 q1 hz1 ho1 => ?_)
  rw [c1]
  have hH : zw_H G.1 zCl B M H1 := hH.kept ho1
  have hS : va_S (zw_A B) s.heap H1 [] := zw_S.new hS hz1 ho1
  refine lv_astore (lv' := [(4, .ref q1), (0, .ref x), (1, .int a), (2, .int d), (3, .ref o)]) hx hb dL_make_13 hl (by decide) rfl (fun ls hl => ?_)
  refine lv_iconst (v := nI 1) hx hb dL_make_15 (by decide) ?_
  refine W.widen (k := 960) (n := 3360) (by omega) (by omega) ?_
  exact W.iret (v := nI 1) hx hb hr (fun t ht hW => ⟨⟨nI 1, (M, H1.size), rfl, ⟨rfl, rfl, hz1⟩, by rw [ht]; exact hH, by rw [ht]⟩, hS.F ht⟩) hS.2.2 dL_make_16
set_option maxHeartbeats 4000000 in
set_option maxRecDepth 100000 in
theorem tL_make2 (l : Launch) (G : zG) (B : Nat) (M : zw_M) (sz x o : Nat) (fs : List Value) (hx0 : M x = some (.inr (1, fs))) (a d : Int32) (hM : zx_Met l yC_make (Cond.code yC_make bC_make 5 (some .int) :: zT) { frames := 6, cells := 1, slots := 6, locals := 82 } (zp G B M [.ref x, .int a, .int d]) "java/lang/IllegalArgumentException" 1 6) : zMn l G B M sz yL_make (Cond.codeWith yL_make bL_make 5 (some .int) [(0, 10, 13, 13), (0, 10, 17, 15), (0, 10, 21, 17)] :: zT) { frames := 7, cells := 960, slots := 3360, locals := 170 } [.ref x, .int a, .int d, .ref o] (fun r u => r = nI 2 ∧ u.1 = M ∧ sz ≤ u.2) 960 3360 := by
  refine va_MetW (cc := bL_make) (maxL := 5) (ret := (some .int)) (hh := [(0, 10, 13, 13), (0, 10, 17, 15), (0, 10, 21, 17)]) (by decide) rfl ?_
  intro p e s m args below meth c s₁ B0 hml hv
  obtain ⟨rfl, ⟨hE, hN⟩, hH, hsz⟩ := hv
  subst hsz
  have hx := B0.exec
  have hb := B0.bytes
  have hr := B0.returns
  have hlocks := B0.notSynchronized
  have hz : ∀ w ∈ zT, w.before _ s = true := fun w h => atoms_spec (ws := Cond.codeWith yL_make bL_make 5 (some .int) [(0, 10, 13, 13), (0, 10, 17, 15), (0, 10, 21, 17)] :: zT) B0.pre w (List.mem_cons_of_mem _ h)
  have htb := zx_table B0 (atoms_spec (ws := Cond.codeWith yL_make bL_make 5 (some .int) [(0, 10, 13, 13), (0, 10, 17, 15), (0, 10, 21, 17)] :: zT) B0.pre _ List.mem_cons_self)
  have hown : s.vm.findClass RL = some m.cls := findClass_of_methodNamed B0.named
  have hK := hE.1
  have hl := lv_entry ([.ref x, .int a, .int d, .ref o]) (n := 5) (Nat.le_of_ble_eq_true rfl)
  rw [lg_entry_eq]
  generalize (lg_sl ([.ref x, .int a, .int d, .ref o]) ++ List.replicate (5 - (lg_sl ([.ref x, .int a, .int d, .ref o])).length) Slot.unset).toArray = ls at hl ⊢
  have hl : lv_has ls 5 [(0, .ref x), (1, .int a), (2, .int d), (3, .ref o)] := hl
  have hS : va_S (zw_A B) s.heap s.heap [] := va_S.rf
  refine lv_aload_n hx hb dL_make_0 rfl (lv_at hl 3 rfl) ?_
  refine lv_iconst (v := nI 0) hx hb dL_make_1 (by decide) ?_
  refine lv_aload_n hx hb dL_make_2 rfl (lv_at hl 0 rfl) ?_
  refine lv_iload_n hx hb dL_make_3 rfl (lv_at hl 1 rfl) ?_
  refine lv_iload_n hx hb dL_make_4 rfl (lv_at hl 2 rfl) ?_
  obtain ⟨x1, x2, x3, hsp, ⟨a1, b1, c1, d1⟩, ⟨a2, b2, c2, d2⟩, ⟨a3, b3, c3, d3⟩⟩ := zx_t3 htb
  refine zx_tryV (As := [.int a, .int d]) (rest := [.int (nI 0), .ref o]) (C := RC) ⟨hx, hb, hml, hown, hz⟩ hM (cwV 2 hz (zt_V zm_146 zm_147 zm_148 zm_1 zm_149) rfl rfl rfl (show _ ∧ _ ∧ _ ∧ _ = some 2 from by decide +kernel) ⟨(show 6 + 1 ≤ 7 by omega), (show 8 + (5 + 11) + 82 ≤ 170 by omega)⟩) ⟨zr_blindp zE_blind _, va_recv hK (hH.one hx0) (q0 := 0) (q := (RC, TC, 14)) rfl rfl, fun U hU hW => ⟨rfl, zE_at hE hS U hU hW, by rw [hU]; exact hH⟩⟩ rfl hl.1 rfl (Nat.le_of_ble_eq_true rfl) dL_make_5 ⟨(show 0 + 1 ≤ 960 by omega), (show 0 + 6 ≤ 3360 by omega)⟩ [x1] x2 [x3] hsp (fun z hz9 => by
      simp only [List.mem_cons, List.not_mem_nil, or_false] at hz9
      rcases hz9 with rfl
      · exact ⟨(by unfold covers; rw [a1, b1]; rfl), (by rw [d1]; decide), "java/lang/IndexOutOfBoundsException", (by rw [d1]; exact hz _ zm_143), hN.1⟩) (by unfold covers; rw [a2, b2]; rfl) (by rw [d2]; decide) (nm := "java/lang/IllegalArgumentException") (by rw [d2]; exact hz _ zm_144) (va_any rfl (hE.2.2.2.2.1 _ zC15)) (fun H1 q1 hz1 ho1 => ?_)
  rw [c2]
  have hH : zw_H G.1 zCl B M H1 := hH.kept ho1
  have hS : va_S (zw_A B) s.heap H1 [] := zw_S.new hS hz1 ho1
  refine lv_astore (lv' := [(4, .ref q1), (0, .ref x), (1, .int a), (2, .int d), (3, .ref o)]) hx hb dL_make_17 hl (by decide) rfl (fun ls hl => ?_)
  refine lv_iconst (v := nI 2) hx hb dL_make_19 (by decide) ?_
  refine W.widen (k := 960) (n := 3360) (by omega) (by omega) ?_
  exact W.iret (v := nI 2) hx hb hr (fun t ht hW => ⟨⟨nI 2, (M, H1.size), rfl, ⟨rfl, rfl, hz1⟩, by rw [ht]; exact hH, by rw [ht]⟩, hS.F ht⟩) hS.2.2 dL_make_20
set_option maxHeartbeats 4000000 in
set_option maxRecDepth 100000 in
theorem tL_make3 (l : Launch) (G : zG) (B : Nat) (M : zw_M) (sz x o : Nat) (fs : List Value) (hx0 : M x = some (.inr (1, fs))) (a d : Int32) (hM : zx_Met l yC_make (Cond.code yC_make bC_make 5 (some .int) :: zT) { frames := 6, cells := 1, slots := 6, locals := 82 } (zp G B M [.ref x, .int a, .int d]) "java/lang/IllegalStateException" 1 6) : zMn l G B M sz yL_make (Cond.codeWith yL_make bL_make 5 (some .int) [(0, 10, 13, 13), (0, 10, 17, 15), (0, 10, 21, 17)] :: zT) { frames := 7, cells := 960, slots := 3360, locals := 170 } [.ref x, .int a, .int d, .ref o] (fun r u => r = nI 3 ∧ u.1 = M ∧ sz ≤ u.2) 960 3360 := by
  refine va_MetW (cc := bL_make) (maxL := 5) (ret := (some .int)) (hh := [(0, 10, 13, 13), (0, 10, 17, 15), (0, 10, 21, 17)]) (by decide) rfl ?_
  intro p e s m args below meth c s₁ B0 hml hv
  obtain ⟨rfl, ⟨hE, hN⟩, hH, hsz⟩ := hv
  subst hsz
  have hx := B0.exec
  have hb := B0.bytes
  have hr := B0.returns
  have hlocks := B0.notSynchronized
  have hz : ∀ w ∈ zT, w.before _ s = true := fun w h => atoms_spec (ws := Cond.codeWith yL_make bL_make 5 (some .int) [(0, 10, 13, 13), (0, 10, 17, 15), (0, 10, 21, 17)] :: zT) B0.pre w (List.mem_cons_of_mem _ h)
  have htb := zx_table B0 (atoms_spec (ws := Cond.codeWith yL_make bL_make 5 (some .int) [(0, 10, 13, 13), (0, 10, 17, 15), (0, 10, 21, 17)] :: zT) B0.pre _ List.mem_cons_self)
  have hown : s.vm.findClass RL = some m.cls := findClass_of_methodNamed B0.named
  have hK := hE.1
  have hl := lv_entry ([.ref x, .int a, .int d, .ref o]) (n := 5) (Nat.le_of_ble_eq_true rfl)
  rw [lg_entry_eq]
  generalize (lg_sl ([.ref x, .int a, .int d, .ref o]) ++ List.replicate (5 - (lg_sl ([.ref x, .int a, .int d, .ref o])).length) Slot.unset).toArray = ls at hl ⊢
  have hl : lv_has ls 5 [(0, .ref x), (1, .int a), (2, .int d), (3, .ref o)] := hl
  have hS : va_S (zw_A B) s.heap s.heap [] := va_S.rf
  refine lv_aload_n hx hb dL_make_0 rfl (lv_at hl 3 rfl) ?_
  refine lv_iconst (v := nI 0) hx hb dL_make_1 (by decide) ?_
  refine lv_aload_n hx hb dL_make_2 rfl (lv_at hl 0 rfl) ?_
  refine lv_iload_n hx hb dL_make_3 rfl (lv_at hl 1 rfl) ?_
  refine lv_iload_n hx hb dL_make_4 rfl (lv_at hl 2 rfl) ?_
  obtain ⟨x1, x2, x3, hsp, ⟨a1, b1, c1, d1⟩, ⟨a2, b2, c2, d2⟩, ⟨a3, b3, c3, d3⟩⟩ := zx_t3 htb
  refine zx_tryV (As := [.int a, .int d]) (rest := [.int (nI 0), .ref o]) (C := RC) ⟨hx, hb, hml, hown, hz⟩ hM (cwV 2 hz (zt_V zm_146 zm_147 zm_148 zm_1 zm_149) rfl rfl rfl (show _ ∧ _ ∧ _ ∧ _ = some 2 from by decide +kernel) ⟨(show 6 + 1 ≤ 7 by omega), (show 8 + (5 + 11) + 82 ≤ 170 by omega)⟩) ⟨zr_blindp zE_blind _, va_recv hK (hH.one hx0) (q0 := 0) (q := (RC, TC, 14)) rfl rfl, fun U hU hW => ⟨rfl, zE_at hE hS U hU hW, by rw [hU]; exact hH⟩⟩ rfl hl.1 rfl (Nat.le_of_ble_eq_true rfl) dL_make_5 ⟨(show 0 + 1 ≤ 960 by omega), (show 0 + 6 ≤ 3360 by omega)⟩ [x1, x2] x3 [] hsp (fun z hz9 => by
      simp only [List.mem_cons, List.not_mem_nil, or_false] at hz9
      rcases hz9 with rfl | rfl
      · exact ⟨(by unfold covers; rw [a1, b1]; rfl), (by rw [d1]; decide), "java/lang/IndexOutOfBoundsException", (by rw [d1]; exact hz _ zm_143), hN.2.1⟩
      · exact ⟨(by unfold covers; rw [a2, b2]; rfl), (by rw [d2]; decide), "java/lang/IllegalArgumentException", (by rw [d2]; exact hz _ zm_144), hN.2.2⟩) (by unfold covers; rw [a3, b3]; rfl) (by rw [d3]; decide) (nm := "java/lang/IllegalStateException") (by rw [d3]; exact hz _ zm_145) (va_any rfl (hE.2.2.2.2.1 _ zC17)) (fun H1 q1 hz1 ho1 => ?_)
  rw [c3]
  have hH : zw_H G.1 zCl B M H1 := hH.kept ho1
  have hS : va_S (zw_A B) s.heap H1 [] := zw_S.new hS hz1 ho1
  refine lv_astore (lv' := [(4, .ref q1), (0, .ref x), (1, .int a), (2, .int d), (3, .ref o)]) hx hb dL_make_21 hl (by decide) rfl (fun ls hl => ?_)
  refine lv_iconst (v := nI 3) hx hb dL_make_23 (by decide) ?_
  refine W.widen (k := 960) (n := 3360) (by omega) (by omega) ?_
  exact W.iret (v := nI 3) hx hb hr (fun t ht hW => ⟨⟨nI 3, (M, H1.size), rfl, ⟨rfl, rfl, hz1⟩, by rw [ht]; exact hH, by rw [ht]⟩, hS.F ht⟩) hS.2.2 dL_make_24
set_option maxHeartbeats 4000000 in
set_option maxRecDepth 100000 in
theorem rL_tick (l : Launch) (G : zG) (B : Nat) (M : zw_M) (sz x o : Nat) (fs : List Value) (hx0 : M x = some (.inr (1, fs))) (f0 : Nat → Int64) (ho : M o = some (.inl (G.2.1 1, 1, .inr (.inl f0)))) (a : Int32) (post : Int32 → zw_M × Nat → Prop) (fr lo mc ms : Nat) (hfr : fr ≤ 6) (hlo : lo ≤ 140) (hmc : mc ≤ 960) (hms : ms ≤ 3360) (hM : zMi l G B M sz yC_tick (Cond.code yC_tick bC_tick 3 (some .int) :: zT) { frames := fr, cells := mc, slots := ms, locals := lo } [.ref x, .int a] post mc ms) (hk : ∀ r u, post r u → u.1 o = M o) : zMn l G B M sz yL_tick (Cond.codeWith yL_tick bL_tick 4 (some .int) [(0, 9, 12, 13), (0, 9, 15, 17)] :: zT) { frames := 7, cells := 960, slots := 3360, locals := 170 } [.ref x, .int a, .ref o] (fun r u => r = nI 0 ∧ ∃ v u1, post v u1 ∧ u.1 = zw_u u1.1 o (.inl (G.2.1 1, 1, .inr (.inl (vp_updL f0 0 v.toInt64)))) ∧ u.2 = u1.2) 960 3360 := by
  refine va_MetW (cc := bL_tick) (maxL := 4) (ret := (some .int)) (hh := [(0, 9, 12, 13), (0, 9, 15, 17)]) (by decide) rfl ?_
  intro p e s m args below meth c s₁ B0 hml hv
  obtain ⟨rfl, ⟨hE, hN⟩, hH, hsz⟩ := hv
  subst hsz
  have hx := B0.exec
  have hb := B0.bytes
  have hr := B0.returns
  have hlocks := B0.notSynchronized
  have hz : ∀ w ∈ zT, w.before _ s = true := fun w h => atoms_spec (ws := Cond.codeWith yL_tick bL_tick 4 (some .int) [(0, 9, 12, 13), (0, 9, 15, 17)] :: zT) B0.pre w (List.mem_cons_of_mem _ h)
  have htb := zx_table B0 (atoms_spec (ws := Cond.codeWith yL_tick bL_tick 4 (some .int) [(0, 9, 12, 13), (0, 9, 15, 17)] :: zT) B0.pre _ List.mem_cons_self)
  have hown : s.vm.findClass RL = some m.cls := findClass_of_methodNamed B0.named
  have hK := hE.1
  have hl := lv_entry ([.ref x, .int a, .ref o]) (n := 4) (Nat.le_of_ble_eq_true rfl)
  rw [lg_entry_eq]
  generalize (lg_sl ([.ref x, .int a, .ref o]) ++ List.replicate (4 - (lg_sl ([.ref x, .int a, .ref o])).length) Slot.unset).toArray = ls at hl ⊢
  have hl : lv_has ls 4 [(0, .ref x), (1, .int a), (2, .ref o)] := hl
  have hS : va_S (zw_A B) s.heap s.heap [] := va_S.rf
  refine lv_aload_n hx hb dL_tick_0 rfl (lv_at hl 2 rfl) ?_
  refine lv_iconst (v := nI 0) hx hb dL_tick_1 (by decide) ?_
  refine lv_aload_n hx hb dL_tick_2 rfl (lv_at hl 0 rfl) ?_
  refine lv_iload_n hx hb dL_tick_3 rfl (lv_at hl 1 rfl) ?_
  refine zr_Vi (As := [.int a]) (rest := [.int (nI 0), .ref o]) (q := (RC, TC, 14)) (mc := mc) (ms := ms) ⟨hx, hb, hml, hown, hz⟩ hM (zt_V zm_263 zm_264 zm_265 zm_1 zm_266) rfl rfl rfl (show _ ∧ _ ∧ _ ∧ _ = some 1 from by decide +kernel) ⟨(show fr + 1 ≤ 7 by omega), (show 8 + (3 + 11) + lo ≤ 170 by omega)⟩ zE_blind (zE_at hE hS) hH hK hx0 rfl rfl hS hl.1 rfl (Nat.le_of_ble_eq_true rfl) dL_tick_4 ⟨(show 0 + mc ≤ 960 by omega), (show 0 + ms ≤ 3360 by omega)⟩ (fun r1 M1 sz1 H1 L1 hp hH hz1 hz2 hS => ?_)
  have ho1 : M1 o = some (.inl (G.2.1 1, 1, .inr (.inl f0))) := (hk r1 (M1, sz1) hp).trans ho
  refine lv_i2l hx hb dL_tick_7 rfl ?_
  refine zw_last hx hb hK hH hS 1 ho1 rfl (0) rfl (by decide) (by decide) dL_tick_8 (fun H2 L2 hH hz3 hS => ?_)
  refine lv_goto (tgt := 18) hx hb dL_tick_9 (by decide) ?_
  refine lv_iconst (v := nI 0) hx hb dL_tick_18 (by decide) ?_
  refine W.widen (k := 960) (n := 3360) (by omega) (by omega) ?_
  exact W.iret (v := nI 0) hx hb hr (fun t ht hW => ⟨⟨nI 0, (_, sz1), rfl, ⟨rfl, r1, (M1, sz1), hp, rfl, rfl⟩, by rw [ht]; exact hH, by rw [ht]; exact hz3.trans hz1⟩, hS.F ht⟩) hS.2.2 dL_tick_19
set_option maxHeartbeats 4000000 in
set_option maxRecDepth 100000 in
theorem tL_tick1 (l : Launch) (G : zG) (B : Nat) (M : zw_M) (sz x o : Nat) (fs : List Value) (hx0 : M x = some (.inr (1, fs))) (a : Int32) (hM : zx_Met l yC_tick (Cond.code yC_tick bC_tick 3 (some .int) :: zT) { frames := 6, cells := 1, slots := 6, locals := 82 } (zp G B M [.ref x, .int a]) "java/lang/IndexOutOfBoundsException" 1 6) : zMn l G B M sz yL_tick (Cond.codeWith yL_tick bL_tick 4 (some .int) [(0, 9, 12, 13), (0, 9, 15, 17)] :: zT) { frames := 7, cells := 960, slots := 3360, locals := 170 } [.ref x, .int a, .ref o] (fun r u => r = nI 1 ∧ u.1 = M ∧ sz ≤ u.2) 960 3360 := by
  refine va_MetW (cc := bL_tick) (maxL := 4) (ret := (some .int)) (hh := [(0, 9, 12, 13), (0, 9, 15, 17)]) (by decide) rfl ?_
  intro p e s m args below meth c s₁ B0 hml hv
  obtain ⟨rfl, ⟨hE, hN⟩, hH, hsz⟩ := hv
  subst hsz
  have hx := B0.exec
  have hb := B0.bytes
  have hr := B0.returns
  have hlocks := B0.notSynchronized
  have hz : ∀ w ∈ zT, w.before _ s = true := fun w h => atoms_spec (ws := Cond.codeWith yL_tick bL_tick 4 (some .int) [(0, 9, 12, 13), (0, 9, 15, 17)] :: zT) B0.pre w (List.mem_cons_of_mem _ h)
  have htb := zx_table B0 (atoms_spec (ws := Cond.codeWith yL_tick bL_tick 4 (some .int) [(0, 9, 12, 13), (0, 9, 15, 17)] :: zT) B0.pre _ List.mem_cons_self)
  have hown : s.vm.findClass RL = some m.cls := findClass_of_methodNamed B0.named
  have hK := hE.1
  have hl := lv_entry ([.ref x, .int a, .ref o]) (n := 4) (Nat.le_of_ble_eq_true rfl)
  rw [lg_entry_eq]
  generalize (lg_sl ([.ref x, .int a, .ref o]) ++ List.replicate (4 - (lg_sl ([.ref x, .int a, .ref o])).length) Slot.unset).toArray = ls at hl ⊢
  have hl : lv_has ls 4 [(0, .ref x), (1, .int a), (2, .ref o)] := hl
  have hS : va_S (zw_A B) s.heap s.heap [] := va_S.rf
  refine lv_aload_n hx hb dL_tick_0 rfl (lv_at hl 2 rfl) ?_
  refine lv_iconst (v := nI 0) hx hb dL_tick_1 (by decide) ?_
  refine lv_aload_n hx hb dL_tick_2 rfl (lv_at hl 0 rfl) ?_
  refine lv_iload_n hx hb dL_tick_3 rfl (lv_at hl 1 rfl) ?_
  obtain ⟨x1, x2, hsp, ⟨a1, b1, c1, d1⟩, ⟨a2, b2, c2, d2⟩⟩ := zx_t2 htb
  refine zx_tryV (As := [.int a]) (rest := [.int (nI 0), .ref o]) (C := RC) ⟨hx, hb, hml, hown, hz⟩ hM (cwV 1 hz (zt_V zm_263 zm_264 zm_265 zm_1 zm_266) rfl rfl rfl (show _ ∧ _ ∧ _ ∧ _ = some 1 from by decide +kernel) ⟨(show 6 + 1 ≤ 7 by omega), (show 8 + (3 + 11) + 82 ≤ 170 by omega)⟩) ⟨zr_blindp zE_blind _, va_recv hK (hH.one hx0) (q0 := 0) (q := (RC, TC, 14)) rfl rfl, fun U hU hW => ⟨rfl, zE_at hE hS U hU hW, by rw [hU]; exact hH⟩⟩ rfl hl.1 rfl (Nat.le_of_ble_eq_true rfl) dL_tick_4 ⟨(show 0 + 1 ≤ 960 by omega), (show 0 + 6 ≤ 3360 by omega)⟩ [] x1 [x2] hsp (fun z hz => absurd hz List.not_mem_nil) (by unfold covers; rw [a1, b1]; rfl) (by rw [d1]; decide) (nm := "java/lang/IndexOutOfBoundsException") (by rw [d1]; exact hz _ zm_143) (va_any rfl (hE.2.2.2.2.1 _ zC13)) (fun H1 q1 hz1 ho1 => ?_)
  rw [c1]
  have hH : zw_H G.1 zCl B M H1 := hH.kept ho1
  have hS : va_S (zw_A B) s.heap H1 [] := zw_S.new hS hz1 ho1
  refine lv_astore_n (lv' := [(3, .ref q1), (0, .ref x), (1, .int a), (2, .ref o)]) hx hb dL_tick_12 rfl hl (by decide) rfl (fun ls hl => ?_)
  refine lv_iconst (v := nI 1) hx hb dL_tick_13 (by decide) ?_
  refine W.widen (k := 960) (n := 3360) (by omega) (by omega) ?_
  exact W.iret (v := nI 1) hx hb hr (fun t ht hW => ⟨⟨nI 1, (M, H1.size), rfl, ⟨rfl, rfl, hz1⟩, by rw [ht]; exact hH, by rw [ht]⟩, hS.F ht⟩) hS.2.2 dL_tick_14
set_option maxHeartbeats 4000000 in
set_option maxRecDepth 100000 in
theorem tL_tick2 (l : Launch) (G : zG) (B : Nat) (M : zw_M) (sz x o : Nat) (fs : List Value) (hx0 : M x = some (.inr (1, fs))) (a : Int32) (hM : zx_Met l yC_tick (Cond.code yC_tick bC_tick 3 (some .int) :: zT) { frames := 6, cells := 1, slots := 6, locals := 82 } (zp G B M [.ref x, .int a]) "java/lang/IllegalStateException" 1 6) : zMn l G B M sz yL_tick (Cond.codeWith yL_tick bL_tick 4 (some .int) [(0, 9, 12, 13), (0, 9, 15, 17)] :: zT) { frames := 7, cells := 960, slots := 3360, locals := 170 } [.ref x, .int a, .ref o] (fun r u => r = nI 2 ∧ u.1 = M ∧ sz ≤ u.2) 960 3360 := by
  refine va_MetW (cc := bL_tick) (maxL := 4) (ret := (some .int)) (hh := [(0, 9, 12, 13), (0, 9, 15, 17)]) (by decide) rfl ?_
  intro p e s m args below meth c s₁ B0 hml hv
  obtain ⟨rfl, ⟨hE, hN⟩, hH, hsz⟩ := hv
  subst hsz
  have hx := B0.exec
  have hb := B0.bytes
  have hr := B0.returns
  have hlocks := B0.notSynchronized
  have hz : ∀ w ∈ zT, w.before _ s = true := fun w h => atoms_spec (ws := Cond.codeWith yL_tick bL_tick 4 (some .int) [(0, 9, 12, 13), (0, 9, 15, 17)] :: zT) B0.pre w (List.mem_cons_of_mem _ h)
  have htb := zx_table B0 (atoms_spec (ws := Cond.codeWith yL_tick bL_tick 4 (some .int) [(0, 9, 12, 13), (0, 9, 15, 17)] :: zT) B0.pre _ List.mem_cons_self)
  have hown : s.vm.findClass RL = some m.cls := findClass_of_methodNamed B0.named
  have hK := hE.1
  have hl := lv_entry ([.ref x, .int a, .ref o]) (n := 4) (Nat.le_of_ble_eq_true rfl)
  rw [lg_entry_eq]
  generalize (lg_sl ([.ref x, .int a, .ref o]) ++ List.replicate (4 - (lg_sl ([.ref x, .int a, .ref o])).length) Slot.unset).toArray = ls at hl ⊢
  have hl : lv_has ls 4 [(0, .ref x), (1, .int a), (2, .ref o)] := hl
  have hS : va_S (zw_A B) s.heap s.heap [] := va_S.rf
  refine lv_aload_n hx hb dL_tick_0 rfl (lv_at hl 2 rfl) ?_
  refine lv_iconst (v := nI 0) hx hb dL_tick_1 (by decide) ?_
  refine lv_aload_n hx hb dL_tick_2 rfl (lv_at hl 0 rfl) ?_
  refine lv_iload_n hx hb dL_tick_3 rfl (lv_at hl 1 rfl) ?_
  obtain ⟨x1, x2, hsp, ⟨a1, b1, c1, d1⟩, ⟨a2, b2, c2, d2⟩⟩ := zx_t2 htb
  refine zx_tryV (As := [.int a]) (rest := [.int (nI 0), .ref o]) (C := RC) ⟨hx, hb, hml, hown, hz⟩ hM (cwV 1 hz (zt_V zm_263 zm_264 zm_265 zm_1 zm_266) rfl rfl rfl (show _ ∧ _ ∧ _ ∧ _ = some 1 from by decide +kernel) ⟨(show 6 + 1 ≤ 7 by omega), (show 8 + (3 + 11) + 82 ≤ 170 by omega)⟩) ⟨zr_blindp zE_blind _, va_recv hK (hH.one hx0) (q0 := 0) (q := (RC, TC, 14)) rfl rfl, fun U hU hW => ⟨rfl, zE_at hE hS U hU hW, by rw [hU]; exact hH⟩⟩ rfl hl.1 rfl (Nat.le_of_ble_eq_true rfl) dL_tick_4 ⟨(show 0 + 1 ≤ 960 by omega), (show 0 + 6 ≤ 3360 by omega)⟩ [x1] x2 [] hsp (fun z hz9 => by
      simp only [List.mem_cons, List.not_mem_nil, or_false] at hz9
      rcases hz9 with rfl
      · exact ⟨(by unfold covers; rw [a1, b1]; rfl), (by rw [d1]; decide), "java/lang/IndexOutOfBoundsException", (by rw [d1]; exact hz _ zm_143), hN.2.1⟩) (by unfold covers; rw [a2, b2]; rfl) (by rw [d2]; decide) (nm := "java/lang/IllegalStateException") (by rw [d2]; exact hz _ zm_145) (va_any rfl (hE.2.2.2.2.1 _ zC17)) (fun H1 q1 hz1 ho1 => ?_)
  rw [c2]
  have hH : zw_H G.1 zCl B M H1 := hH.kept ho1
  have hS : va_S (zw_A B) s.heap H1 [] := zw_S.new hS hz1 ho1
  refine lv_astore_n (lv' := [(3, .ref q1), (0, .ref x), (1, .int a), (2, .ref o)]) hx hb dL_tick_15 rfl hl (by decide) rfl (fun ls hl => ?_)
  refine lv_iconst (v := nI 2) hx hb dL_tick_16 (by decide) ?_
  refine W.widen (k := 960) (n := 3360) (by omega) (by omega) ?_
  exact W.iret (v := nI 2) hx hb hr (fun t ht hW => ⟨⟨nI 2, (M, H1.size), rfl, ⟨rfl, rfl, hz1⟩, by rw [ht]; exact hH, by rw [ht]⟩, hS.F ht⟩) hS.2.2 dL_tick_17
set_option maxHeartbeats 4000000 in
set_option maxRecDepth 100000 in
theorem rL_deliver (l : Launch) (G : zG) (B : Nat) (M : zw_M) (sz x o : Nat) (fs : List Value) (hx0 : M x = some (.inr (1, fs))) (f0 : Nat → Int64) (ho : M o = some (.inl (G.2.1 1, 1, .inr (.inl f0)))) (a : Int32) (post : Int32 → zw_M × Nat → Prop) (fr lo mc ms : Nat) (hfr : fr ≤ 6) (hlo : lo ≤ 140) (hmc : mc ≤ 960) (hms : ms ≤ 3360) (hM : zMi l G B M sz yC_deliver (Cond.code yC_deliver bC_deliver 3 (some .int) :: zT) { frames := fr, cells := mc, slots := ms, locals := lo } [.ref x, .int a] post mc ms) (hk : ∀ r u, post r u → u.1 o = M o) : zMn l G B M sz yL_deliver (Cond.codeWith yL_deliver bL_deliver 4 (some .int) [(0, 9, 12, 13)] :: zT) { frames := 7, cells := 960, slots := 3360, locals := 170 } [.ref x, .int a, .ref o] (fun r u => r = nI 0 ∧ ∃ v u1, post v u1 ∧ u.1 = zw_u u1.1 o (.inl (G.2.1 1, 1, .inr (.inl (vp_updL f0 0 v.toInt64)))) ∧ u.2 = u1.2) 960 3360 := by
  refine va_MetW (cc := bL_deliver) (maxL := 4) (ret := (some .int)) (hh := [(0, 9, 12, 13)]) (by decide) rfl ?_
  intro p e s m args below meth c s₁ B0 hml hv
  obtain ⟨rfl, ⟨hE, hN⟩, hH, hsz⟩ := hv
  subst hsz
  have hx := B0.exec
  have hb := B0.bytes
  have hr := B0.returns
  have hlocks := B0.notSynchronized
  have hz : ∀ w ∈ zT, w.before _ s = true := fun w h => atoms_spec (ws := Cond.codeWith yL_deliver bL_deliver 4 (some .int) [(0, 9, 12, 13)] :: zT) B0.pre w (List.mem_cons_of_mem _ h)
  have htb := zx_table B0 (atoms_spec (ws := Cond.codeWith yL_deliver bL_deliver 4 (some .int) [(0, 9, 12, 13)] :: zT) B0.pre _ List.mem_cons_self)
  have hown : s.vm.findClass RL = some m.cls := findClass_of_methodNamed B0.named
  have hK := hE.1
  have hl := lv_entry ([.ref x, .int a, .ref o]) (n := 4) (Nat.le_of_ble_eq_true rfl)
  rw [lg_entry_eq]
  generalize (lg_sl ([.ref x, .int a, .ref o]) ++ List.replicate (4 - (lg_sl ([.ref x, .int a, .ref o])).length) Slot.unset).toArray = ls at hl ⊢
  have hl : lv_has ls 4 [(0, .ref x), (1, .int a), (2, .ref o)] := hl
  have hS : va_S (zw_A B) s.heap s.heap [] := va_S.rf
  refine lv_aload_n hx hb dL_deliver_0 rfl (lv_at hl 2 rfl) ?_
  refine lv_iconst (v := nI 0) hx hb dL_deliver_1 (by decide) ?_
  refine lv_aload_n hx hb dL_deliver_2 rfl (lv_at hl 0 rfl) ?_
  refine lv_iload_n hx hb dL_deliver_3 rfl (lv_at hl 1 rfl) ?_
  refine zr_Vi (As := [.int a]) (rest := [.int (nI 0), .ref o]) (q := (RC, TC, 14)) (mc := mc) (ms := ms) ⟨hx, hb, hml, hown, hz⟩ hM (zt_V zm_315 zm_316 zm_317 zm_1 zm_318) rfl rfl rfl (show _ ∧ _ ∧ _ ∧ _ = some 1 from by decide +kernel) ⟨(show fr + 1 ≤ 7 by omega), (show 8 + (3 + 11) + lo ≤ 170 by omega)⟩ zE_blind (zE_at hE hS) hH hK hx0 rfl rfl hS hl.1 rfl (Nat.le_of_ble_eq_true rfl) dL_deliver_4 ⟨(show 0 + mc ≤ 960 by omega), (show 0 + ms ≤ 3360 by omega)⟩ (fun r1 M1 sz1 H1 L1 hp hH hz1 hz2 hS => ?_)
  have ho1 : M1 o = some (.inl (G.2.1 1, 1, .inr (.inl f0))) := (hk r1 (M1, sz1) hp).trans ho
  refine lv_i2l hx hb dL_deliver_7 rfl ?_
  refine zw_last hx hb hK hH hS 1 ho1 rfl (0) rfl (by decide) (by decide) dL_deliver_8 (fun H2 L2 hH hz3 hS => ?_)
  refine lv_goto (tgt := 15) hx hb dL_deliver_9 (by decide) ?_
  refine lv_iconst (v := nI 0) hx hb dL_deliver_15 (by decide) ?_
  refine W.widen (k := 960) (n := 3360) (by omega) (by omega) ?_
  exact W.iret (v := nI 0) hx hb hr (fun t ht hW => ⟨⟨nI 0, (_, sz1), rfl, ⟨rfl, r1, (M1, sz1), hp, rfl, rfl⟩, by rw [ht]; exact hH, by rw [ht]; exact hz3.trans hz1⟩, hS.F ht⟩) hS.2.2 dL_deliver_16
set_option maxHeartbeats 4000000 in
set_option maxRecDepth 100000 in
theorem tL_deliver1 (l : Launch) (G : zG) (B : Nat) (M : zw_M) (sz x o : Nat) (fs : List Value) (hx0 : M x = some (.inr (1, fs))) (a : Int32) (hM : zx_Met l yC_deliver (Cond.code yC_deliver bC_deliver 3 (some .int) :: zT) { frames := 6, cells := 1, slots := 6, locals := 82 } (zp G B M [.ref x, .int a]) "java/lang/IndexOutOfBoundsException" 1 6) : zMn l G B M sz yL_deliver (Cond.codeWith yL_deliver bL_deliver 4 (some .int) [(0, 9, 12, 13)] :: zT) { frames := 7, cells := 960, slots := 3360, locals := 170 } [.ref x, .int a, .ref o] (fun r u => r = nI 1 ∧ u.1 = M ∧ sz ≤ u.2) 960 3360 := by
  refine va_MetW (cc := bL_deliver) (maxL := 4) (ret := (some .int)) (hh := [(0, 9, 12, 13)]) (by decide) rfl ?_
  intro p e s m args below meth c s₁ B0 hml hv
  obtain ⟨rfl, ⟨hE, hN⟩, hH, hsz⟩ := hv
  subst hsz
  have hx := B0.exec
  have hb := B0.bytes
  have hr := B0.returns
  have hlocks := B0.notSynchronized
  have hz : ∀ w ∈ zT, w.before _ s = true := fun w h => atoms_spec (ws := Cond.codeWith yL_deliver bL_deliver 4 (some .int) [(0, 9, 12, 13)] :: zT) B0.pre w (List.mem_cons_of_mem _ h)
  have htb := zx_table B0 (atoms_spec (ws := Cond.codeWith yL_deliver bL_deliver 4 (some .int) [(0, 9, 12, 13)] :: zT) B0.pre _ List.mem_cons_self)
  have hown : s.vm.findClass RL = some m.cls := findClass_of_methodNamed B0.named
  have hK := hE.1
  have hl := lv_entry ([.ref x, .int a, .ref o]) (n := 4) (Nat.le_of_ble_eq_true rfl)
  rw [lg_entry_eq]
  generalize (lg_sl ([.ref x, .int a, .ref o]) ++ List.replicate (4 - (lg_sl ([.ref x, .int a, .ref o])).length) Slot.unset).toArray = ls at hl ⊢
  have hl : lv_has ls 4 [(0, .ref x), (1, .int a), (2, .ref o)] := hl
  have hS : va_S (zw_A B) s.heap s.heap [] := va_S.rf
  refine lv_aload_n hx hb dL_deliver_0 rfl (lv_at hl 2 rfl) ?_
  refine lv_iconst (v := nI 0) hx hb dL_deliver_1 (by decide) ?_
  refine lv_aload_n hx hb dL_deliver_2 rfl (lv_at hl 0 rfl) ?_
  refine lv_iload_n hx hb dL_deliver_3 rfl (lv_at hl 1 rfl) ?_
  obtain ⟨x1, hsp, ⟨a1, b1, c1, d1⟩⟩ := zx_t1 htb
  refine zx_tryV (As := [.int a]) (rest := [.int (nI 0), .ref o]) (C := RC) ⟨hx, hb, hml, hown, hz⟩ hM (cwV 1 hz (zt_V zm_315 zm_316 zm_317 zm_1 zm_318) rfl rfl rfl (show _ ∧ _ ∧ _ ∧ _ = some 1 from by decide +kernel) ⟨(show 6 + 1 ≤ 7 by omega), (show 8 + (3 + 11) + 82 ≤ 170 by omega)⟩) ⟨zr_blindp zE_blind _, va_recv hK (hH.one hx0) (q0 := 0) (q := (RC, TC, 14)) rfl rfl, fun U hU hW => ⟨rfl, zE_at hE hS U hU hW, by rw [hU]; exact hH⟩⟩ rfl hl.1 rfl (Nat.le_of_ble_eq_true rfl) dL_deliver_4 ⟨(show 0 + 1 ≤ 960 by omega), (show 0 + 6 ≤ 3360 by omega)⟩ [] x1 [] hsp (fun z hz => absurd hz List.not_mem_nil) (by unfold covers; rw [a1, b1]; rfl) (by rw [d1]; decide) (nm := "java/lang/IndexOutOfBoundsException") (by rw [d1]; exact hz _ zm_143) (va_any rfl (hE.2.2.2.2.1 _ zC13)) (fun H1 q1 hz1 ho1 => ?_)
  rw [c1]
  have hH : zw_H G.1 zCl B M H1 := hH.kept ho1
  have hS : va_S (zw_A B) s.heap H1 [] := zw_S.new hS hz1 ho1
  refine lv_astore_n (lv' := [(3, .ref q1), (0, .ref x), (1, .int a), (2, .ref o)]) hx hb dL_deliver_12 rfl hl (by decide) rfl (fun ls hl => ?_)
  refine lv_iconst (v := nI 1) hx hb dL_deliver_13 (by decide) ?_
  refine W.widen (k := 960) (n := 3360) (by omega) (by omega) ?_
  exact W.iret (v := nI 1) hx hb hr (fun t ht hW => ⟨⟨nI 1, (M, H1.size), rfl, ⟨rfl, rfl, hz1⟩, by rw [ht]; exact hH, by rw [ht]⟩, hS.F ht⟩) hS.2.2 dL_deliver_14
set_option maxHeartbeats 4000000 in
set_option maxRecDepth 100000 in
theorem rL_twice (l : Launch) (G : zG) (B : Nat) (M : zw_M) (sz x o : Nat) (fs : List Value) (hx0 : M x = some (.inr (1, fs))) (f0 : Nat → Int64) (ho : M o = some (.inl (G.2.1 1, 1, .inr (.inl f0)))) (a : Int32) (post : Int32 → zw_M × Nat → Prop) (fr lo mc ms : Nat) (hfr : fr ≤ 6) (hlo : lo ≤ 140) (hmc : mc ≤ 960) (hms : ms ≤ 3360) (hM : zMi l G B M sz yC_twice (Cond.code yC_twice bC_twice 4 (some .int) :: zT) { frames := fr, cells := mc, slots := ms, locals := lo } [.ref x, .int a] post mc ms) (hk : ∀ r u, post r u → u.1 o = M o) : zMn l G B M sz yL_twice (Cond.codeWith yL_twice bL_twice 4 (some .int) [(0, 9, 12, 13)] :: zT) { frames := 7, cells := 960, slots := 3360, locals := 170 } [.ref x, .int a, .ref o] (fun r u => r = nI 0 ∧ ∃ v u1, post v u1 ∧ u.1 = zw_u u1.1 o (.inl (G.2.1 1, 1, .inr (.inl (vp_updL f0 0 v.toInt64)))) ∧ u.2 = u1.2) 960 3360 := by
  refine va_MetW (cc := bL_twice) (maxL := 4) (ret := (some .int)) (hh := [(0, 9, 12, 13)]) (by decide) rfl ?_
  intro p e s m args below meth c s₁ B0 hml hv
  obtain ⟨rfl, ⟨hE, hN⟩, hH, hsz⟩ := hv
  subst hsz
  have hx := B0.exec
  have hb := B0.bytes
  have hr := B0.returns
  have hlocks := B0.notSynchronized
  have hz : ∀ w ∈ zT, w.before _ s = true := fun w h => atoms_spec (ws := Cond.codeWith yL_twice bL_twice 4 (some .int) [(0, 9, 12, 13)] :: zT) B0.pre w (List.mem_cons_of_mem _ h)
  have htb := zx_table B0 (atoms_spec (ws := Cond.codeWith yL_twice bL_twice 4 (some .int) [(0, 9, 12, 13)] :: zT) B0.pre _ List.mem_cons_self)
  have hown : s.vm.findClass RL = some m.cls := findClass_of_methodNamed B0.named
  have hK := hE.1
  have hl := lv_entry ([.ref x, .int a, .ref o]) (n := 4) (Nat.le_of_ble_eq_true rfl)
  rw [lg_entry_eq]
  generalize (lg_sl ([.ref x, .int a, .ref o]) ++ List.replicate (4 - (lg_sl ([.ref x, .int a, .ref o])).length) Slot.unset).toArray = ls at hl ⊢
  have hl : lv_has ls 4 [(0, .ref x), (1, .int a), (2, .ref o)] := hl
  have hS : va_S (zw_A B) s.heap s.heap [] := va_S.rf
  refine lv_aload_n hx hb dL_twice_0 rfl (lv_at hl 2 rfl) ?_
  refine lv_iconst (v := nI 0) hx hb dL_twice_1 (by decide) ?_
  refine lv_aload_n hx hb dL_twice_2 rfl (lv_at hl 0 rfl) ?_
  refine lv_iload_n hx hb dL_twice_3 rfl (lv_at hl 1 rfl) ?_
  refine zr_Vi (As := [.int a]) (rest := [.int (nI 0), .ref o]) (q := (RC, TC, 14)) (mc := mc) (ms := ms) ⟨hx, hb, hml, hown, hz⟩ hM (zt_V zm_355 zm_356 zm_357 zm_1 zm_358) rfl rfl rfl (show _ ∧ _ ∧ _ ∧ _ = some 1 from by decide +kernel) ⟨(show fr + 1 ≤ 7 by omega), (show 8 + (4 + 11) + lo ≤ 170 by omega)⟩ zE_blind (zE_at hE hS) hH hK hx0 rfl rfl hS hl.1 rfl (Nat.le_of_ble_eq_true rfl) dL_twice_4 ⟨(show 0 + mc ≤ 960 by omega), (show 0 + ms ≤ 3360 by omega)⟩ (fun r1 M1 sz1 H1 L1 hp hH hz1 hz2 hS => ?_)
  have ho1 : M1 o = some (.inl (G.2.1 1, 1, .inr (.inl f0))) := (hk r1 (M1, sz1) hp).trans ho
  refine lv_i2l hx hb dL_twice_7 rfl ?_
  refine zw_last hx hb hK hH hS 1 ho1 rfl (0) rfl (by decide) (by decide) dL_twice_8 (fun H2 L2 hH hz3 hS => ?_)
  refine lv_goto (tgt := 15) hx hb dL_twice_9 (by decide) ?_
  refine lv_iconst (v := nI 0) hx hb dL_twice_15 (by decide) ?_
  refine W.widen (k := 960) (n := 3360) (by omega) (by omega) ?_
  exact W.iret (v := nI 0) hx hb hr (fun t ht hW => ⟨⟨nI 0, (_, sz1), rfl, ⟨rfl, r1, (M1, sz1), hp, rfl, rfl⟩, by rw [ht]; exact hH, by rw [ht]; exact hz3.trans hz1⟩, hS.F ht⟩) hS.2.2 dL_twice_16
set_option maxHeartbeats 4000000 in
set_option maxRecDepth 100000 in
theorem tL_twice1 (l : Launch) (G : zG) (B : Nat) (M : zw_M) (sz x o : Nat) (fs : List Value) (hx0 : M x = some (.inr (1, fs))) (a : Int32) (hM : zx_Met l yC_twice (Cond.code yC_twice bC_twice 4 (some .int) :: zT) { frames := 6, cells := 1, slots := 6, locals := 82 } (zp G B M [.ref x, .int a]) "java/lang/IndexOutOfBoundsException" 1 6) : zMn l G B M sz yL_twice (Cond.codeWith yL_twice bL_twice 4 (some .int) [(0, 9, 12, 13)] :: zT) { frames := 7, cells := 960, slots := 3360, locals := 170 } [.ref x, .int a, .ref o] (fun r u => r = nI 1 ∧ u.1 = M ∧ sz ≤ u.2) 960 3360 := by
  refine va_MetW (cc := bL_twice) (maxL := 4) (ret := (some .int)) (hh := [(0, 9, 12, 13)]) (by decide) rfl ?_
  intro p e s m args below meth c s₁ B0 hml hv
  obtain ⟨rfl, ⟨hE, hN⟩, hH, hsz⟩ := hv
  subst hsz
  have hx := B0.exec
  have hb := B0.bytes
  have hr := B0.returns
  have hlocks := B0.notSynchronized
  have hz : ∀ w ∈ zT, w.before _ s = true := fun w h => atoms_spec (ws := Cond.codeWith yL_twice bL_twice 4 (some .int) [(0, 9, 12, 13)] :: zT) B0.pre w (List.mem_cons_of_mem _ h)
  have htb := zx_table B0 (atoms_spec (ws := Cond.codeWith yL_twice bL_twice 4 (some .int) [(0, 9, 12, 13)] :: zT) B0.pre _ List.mem_cons_self)
  have hown : s.vm.findClass RL = some m.cls := findClass_of_methodNamed B0.named
  have hK := hE.1
  have hl := lv_entry ([.ref x, .int a, .ref o]) (n := 4) (Nat.le_of_ble_eq_true rfl)
  rw [lg_entry_eq]
  generalize (lg_sl ([.ref x, .int a, .ref o]) ++ List.replicate (4 - (lg_sl ([.ref x, .int a, .ref o])).length) Slot.unset).toArray = ls at hl ⊢
  have hl : lv_has ls 4 [(0, .ref x), (1, .int a), (2, .ref o)] := hl
  have hS : va_S (zw_A B) s.heap s.heap [] := va_S.rf
  refine lv_aload_n hx hb dL_twice_0 rfl (lv_at hl 2 rfl) ?_
  refine lv_iconst (v := nI 0) hx hb dL_twice_1 (by decide) ?_
  refine lv_aload_n hx hb dL_twice_2 rfl (lv_at hl 0 rfl) ?_
  refine lv_iload_n hx hb dL_twice_3 rfl (lv_at hl 1 rfl) ?_
  obtain ⟨x1, hsp, ⟨a1, b1, c1, d1⟩⟩ := zx_t1 htb
  refine zx_tryV (As := [.int a]) (rest := [.int (nI 0), .ref o]) (C := RC) ⟨hx, hb, hml, hown, hz⟩ hM (cwV 1 hz (zt_V zm_355 zm_356 zm_357 zm_1 zm_358) rfl rfl rfl (show _ ∧ _ ∧ _ ∧ _ = some 1 from by decide +kernel) ⟨(show 6 + 1 ≤ 7 by omega), (show 8 + (4 + 11) + 82 ≤ 170 by omega)⟩) ⟨zr_blindp zE_blind _, va_recv hK (hH.one hx0) (q0 := 0) (q := (RC, TC, 14)) rfl rfl, fun U hU hW => ⟨rfl, zE_at hE hS U hU hW, by rw [hU]; exact hH⟩⟩ rfl hl.1 rfl (Nat.le_of_ble_eq_true rfl) dL_twice_4 ⟨(show 0 + 1 ≤ 960 by omega), (show 0 + 6 ≤ 3360 by omega)⟩ [] x1 [] hsp (fun z hz => absurd hz List.not_mem_nil) (by unfold covers; rw [a1, b1]; rfl) (by rw [d1]; decide) (nm := "java/lang/IndexOutOfBoundsException") (by rw [d1]; exact hz _ zm_143) (va_any rfl (hE.2.2.2.2.1 _ zC13)) (fun H1 q1 hz1 ho1 => ?_)
  rw [c1]
  have hH : zw_H G.1 zCl B M H1 := hH.kept ho1
  have hS : va_S (zw_A B) s.heap H1 [] := zw_S.new hS hz1 ho1
  refine lv_astore_n (lv' := [(3, .ref q1), (0, .ref x), (1, .int a), (2, .ref o)]) hx hb dL_twice_12 rfl hl (by decide) rfl (fun ls hl => ?_)
  refine lv_iconst (v := nI 1) hx hb dL_twice_13 (by decide) ?_
  refine W.widen (k := 960) (n := 3360) (by omega) (by omega) ?_
  exact W.iret (v := nI 1) hx hb hr (fun t ht hW => ⟨⟨nI 1, (M, H1.size), rfl, ⟨rfl, rfl, hz1⟩, by rw [ht]; exact hH, by rw [ht]⟩, hS.F ht⟩) hS.2.2 dL_twice_14
set_option maxHeartbeats 4000000 in
set_option maxRecDepth 100000 in
theorem rL_message (l : Launch) (G : zG) (B : Nat) (M : zw_M) (sz x o : Nat) (fs : List Value) (hx0 : M x = some (.inr (1, fs))) (f0 : Nat → Int64) (ho : M o = some (.inl (G.2.1 1, 1, .inr (.inl f0)))) (a d : Int32) (post : Int32 → zw_M × Nat → Prop) (fr lo mc ms : Nat) (hfr : fr ≤ 6) (hlo : lo ≤ 140) (hmc : mc ≤ 960) (hms : ms ≤ 3360) (hM : zMi l G B M sz yC_message (Cond.code yC_message bC_message 4 (some .int) :: zT) { frames := fr, cells := mc, slots := ms, locals := lo } [.ref x, .int a, .int d] post mc ms) (hk : ∀ r u, post r u → u.1 o = M o) : zMn l G B M sz yL_message (Cond.codeWith yL_message bL_message 5 (some .int) [(0, 10, 13, 13)] :: zT) { frames := 7, cells := 960, slots := 3360, locals := 170 } [.ref x, .int a, .int d, .ref o] (fun r u => r = nI 0 ∧ ∃ v u1, post v u1 ∧ u.1 = zw_u u1.1 o (.inl (G.2.1 1, 1, .inr (.inl (vp_updL f0 0 v.toInt64)))) ∧ u.2 = u1.2) 960 3360 := by
  refine va_MetW (cc := bL_message) (maxL := 5) (ret := (some .int)) (hh := [(0, 10, 13, 13)]) (by decide) rfl ?_
  intro p e s m args below meth c s₁ B0 hml hv
  obtain ⟨rfl, ⟨hE, hN⟩, hH, hsz⟩ := hv
  subst hsz
  have hx := B0.exec
  have hb := B0.bytes
  have hr := B0.returns
  have hlocks := B0.notSynchronized
  have hz : ∀ w ∈ zT, w.before _ s = true := fun w h => atoms_spec (ws := Cond.codeWith yL_message bL_message 5 (some .int) [(0, 10, 13, 13)] :: zT) B0.pre w (List.mem_cons_of_mem _ h)
  have htb := zx_table B0 (atoms_spec (ws := Cond.codeWith yL_message bL_message 5 (some .int) [(0, 10, 13, 13)] :: zT) B0.pre _ List.mem_cons_self)
  have hown : s.vm.findClass RL = some m.cls := findClass_of_methodNamed B0.named
  have hK := hE.1
  have hl := lv_entry ([.ref x, .int a, .int d, .ref o]) (n := 5) (Nat.le_of_ble_eq_true rfl)
  rw [lg_entry_eq]
  generalize (lg_sl ([.ref x, .int a, .int d, .ref o]) ++ List.replicate (5 - (lg_sl ([.ref x, .int a, .int d, .ref o])).length) Slot.unset).toArray = ls at hl ⊢
  have hl : lv_has ls 5 [(0, .ref x), (1, .int a), (2, .int d), (3, .ref o)] := hl
  have hS : va_S (zw_A B) s.heap s.heap [] := va_S.rf
  refine lv_aload_n hx hb dL_message_0 rfl (lv_at hl 3 rfl) ?_
  refine lv_iconst (v := nI 0) hx hb dL_message_1 (by decide) ?_
  refine lv_aload_n hx hb dL_message_2 rfl (lv_at hl 0 rfl) ?_
  refine lv_iload_n hx hb dL_message_3 rfl (lv_at hl 1 rfl) ?_
  refine lv_iload_n hx hb dL_message_4 rfl (lv_at hl 2 rfl) ?_
  refine zr_Vi (As := [.int a, .int d]) (rest := [.int (nI 0), .ref o]) (q := (RC, TC, 14)) (mc := mc) (ms := ms) ⟨hx, hb, hml, hown, hz⟩ hM (zt_V zm_362 zm_363 zm_364 zm_1 zm_365) rfl rfl rfl (show _ ∧ _ ∧ _ ∧ _ = some 2 from by decide +kernel) ⟨(show fr + 1 ≤ 7 by omega), (show 8 + (4 + 11) + lo ≤ 170 by omega)⟩ zE_blind (zE_at hE hS) hH hK hx0 rfl rfl hS hl.1 rfl (Nat.le_of_ble_eq_true rfl) dL_message_5 ⟨(show 0 + mc ≤ 960 by omega), (show 0 + ms ≤ 3360 by omega)⟩ (fun r1 M1 sz1 H1 L1 hp hH hz1 hz2 hS => ?_)
  have ho1 : M1 o = some (.inl (G.2.1 1, 1, .inr (.inl f0))) := (hk r1 (M1, sz1) hp).trans ho
  refine lv_i2l hx hb dL_message_8 rfl ?_
  refine zw_last hx hb hK hH hS 1 ho1 rfl (0) rfl (by decide) (by decide) dL_message_9 (fun H2 L2 hH hz3 hS => ?_)
  refine lv_goto (tgt := 17) hx hb dL_message_10 (by decide) ?_
  refine lv_iconst (v := nI 0) hx hb dL_message_17 (by decide) ?_
  refine W.widen (k := 960) (n := 3360) (by omega) (by omega) ?_
  exact W.iret (v := nI 0) hx hb hr (fun t ht hW => ⟨⟨nI 0, (_, sz1), rfl, ⟨rfl, r1, (M1, sz1), hp, rfl, rfl⟩, by rw [ht]; exact hH, by rw [ht]; exact hz3.trans hz1⟩, hS.F ht⟩) hS.2.2 dL_message_18
set_option maxHeartbeats 4000000 in
set_option maxRecDepth 100000 in
theorem tL_message1 (l : Launch) (G : zG) (B : Nat) (M : zw_M) (sz x o : Nat) (fs : List Value) (hx0 : M x = some (.inr (1, fs))) (a d : Int32) (hM : zx_Met l yC_message (Cond.code yC_message bC_message 4 (some .int) :: zT) { frames := 6, cells := 1, slots := 6, locals := 82 } (zp G B M [.ref x, .int a, .int d]) "java/lang/IndexOutOfBoundsException" 1 6) : zMn l G B M sz yL_message (Cond.codeWith yL_message bL_message 5 (some .int) [(0, 10, 13, 13)] :: zT) { frames := 7, cells := 960, slots := 3360, locals := 170 } [.ref x, .int a, .int d, .ref o] (fun r u => r = nI 1 ∧ u.1 = M ∧ sz ≤ u.2) 960 3360 := by
  refine va_MetW (cc := bL_message) (maxL := 5) (ret := (some .int)) (hh := [(0, 10, 13, 13)]) (by decide) rfl ?_
  intro p e s m args below meth c s₁ B0 hml hv
  obtain ⟨rfl, ⟨hE, hN⟩, hH, hsz⟩ := hv
  subst hsz
  have hx := B0.exec
  have hb := B0.bytes
  have hr := B0.returns
  have hlocks := B0.notSynchronized
  have hz : ∀ w ∈ zT, w.before _ s = true := fun w h => atoms_spec (ws := Cond.codeWith yL_message bL_message 5 (some .int) [(0, 10, 13, 13)] :: zT) B0.pre w (List.mem_cons_of_mem _ h)
  have htb := zx_table B0 (atoms_spec (ws := Cond.codeWith yL_message bL_message 5 (some .int) [(0, 10, 13, 13)] :: zT) B0.pre _ List.mem_cons_self)
  have hown : s.vm.findClass RL = some m.cls := findClass_of_methodNamed B0.named
  have hK := hE.1
  have hl := lv_entry ([.ref x, .int a, .int d, .ref o]) (n := 5) (Nat.le_of_ble_eq_true rfl)
  rw [lg_entry_eq]
  generalize (lg_sl ([.ref x, .int a, .int d, .ref o]) ++ List.replicate (5 - (lg_sl ([.ref x, .int a, .int d, .ref o])).length) Slot.unset).toArray = ls at hl ⊢
  have hl : lv_has ls 5 [(0, .ref x), (1, .int a), (2, .int d), (3, .ref o)] := hl
  have hS : va_S (zw_A B) s.heap s.heap [] := va_S.rf
  refine lv_aload_n hx hb dL_message_0 rfl (lv_at hl 3 rfl) ?_
  refine lv_iconst (v := nI 0) hx hb dL_message_1 (by decide) ?_
  refine lv_aload_n hx hb dL_message_2 rfl (lv_at hl 0 rfl) ?_
  refine lv_iload_n hx hb dL_message_3 rfl (lv_at hl 1 rfl) ?_
  refine lv_iload_n hx hb dL_message_4 rfl (lv_at hl 2 rfl) ?_
  obtain ⟨x1, hsp, ⟨a1, b1, c1, d1⟩⟩ := zx_t1 htb
  refine zx_tryV (As := [.int a, .int d]) (rest := [.int (nI 0), .ref o]) (C := RC) ⟨hx, hb, hml, hown, hz⟩ hM (cwV 2 hz (zt_V zm_362 zm_363 zm_364 zm_1 zm_365) rfl rfl rfl (show _ ∧ _ ∧ _ ∧ _ = some 2 from by decide +kernel) ⟨(show 6 + 1 ≤ 7 by omega), (show 8 + (4 + 11) + 82 ≤ 170 by omega)⟩) ⟨zr_blindp zE_blind _, va_recv hK (hH.one hx0) (q0 := 0) (q := (RC, TC, 14)) rfl rfl, fun U hU hW => ⟨rfl, zE_at hE hS U hU hW, by rw [hU]; exact hH⟩⟩ rfl hl.1 rfl (Nat.le_of_ble_eq_true rfl) dL_message_5 ⟨(show 0 + 1 ≤ 960 by omega), (show 0 + 6 ≤ 3360 by omega)⟩ [] x1 [] hsp (fun z hz => absurd hz List.not_mem_nil) (by unfold covers; rw [a1, b1]; rfl) (by rw [d1]; decide) (nm := "java/lang/IndexOutOfBoundsException") (by rw [d1]; exact hz _ zm_143) (va_any rfl (hE.2.2.2.2.1 _ zC13)) (fun H1 q1 hz1 ho1 => ?_)
  rw [c1]
  have hH : zw_H G.1 zCl B M H1 := hH.kept ho1
  have hS : va_S (zw_A B) s.heap H1 [] := zw_S.new hS hz1 ho1
  refine lv_astore (lv' := [(4, .ref q1), (0, .ref x), (1, .int a), (2, .int d), (3, .ref o)]) hx hb dL_message_13 hl (by decide) rfl (fun ls hl => ?_)
  refine lv_iconst (v := nI 1) hx hb dL_message_15 (by decide) ?_
  refine W.widen (k := 960) (n := 3360) (by omega) (by omega) ?_
  exact W.iret (v := nI 1) hx hb hr (fun t ht hW => ⟨⟨nI 1, (M, H1.size), rfl, ⟨rfl, rfl, hz1⟩, by rw [ht]; exact hH, by rw [ht]⟩, hS.F ht⟩) hS.2.2 dL_message_16
set_option maxHeartbeats 4000000 in
set_option maxRecDepth 100000 in
theorem rL_clock (l : Launch) (G : zG) (B : Nat) (M : zw_M) (sz x o : Nat) (fs : List Value) (hx0 : M x = some (.inr (1, fs))) (f0 : Nat → Int64) (ho : M o = some (.inl (G.2.1 1, 1, .inr (.inl f0)))) (a : Int32) (post : Int64 → zw_M × Nat → Prop) (fr lo mc ms : Nat) (hfr : fr ≤ 6) (hlo : lo ≤ 140) (hmc : mc ≤ 960) (hms : ms ≤ 3360) (hM : zMl l G B M sz yC_clock (Cond.code yC_clock bC_clock 2 (some .long) :: zT) { frames := fr, cells := mc, slots := ms, locals := lo } [.ref x, .int a] post mc ms) (hk : ∀ r u, post r u → u.1 o = M o) : zMn l G B M sz yL_clock (Cond.codeWith yL_clock bL_clock 4 (some .int) [(0, 8, 11, 13)] :: zT) { frames := 7, cells := 960, slots := 3360, locals := 170 } [.ref x, .int a, .ref o] (fun r u => r = nI 0 ∧ ∃ v u1, post v u1 ∧ u.1 = zw_u u1.1 o (.inl (G.2.1 1, 1, .inr (.inl (vp_updL f0 0 v)))) ∧ u.2 = u1.2) 960 3360 := by
  refine va_MetW (cc := bL_clock) (maxL := 4) (ret := (some .int)) (hh := [(0, 8, 11, 13)]) (by decide) rfl ?_
  intro p e s m args below meth c s₁ B0 hml hv
  obtain ⟨rfl, ⟨hE, hN⟩, hH, hsz⟩ := hv
  subst hsz
  have hx := B0.exec
  have hb := B0.bytes
  have hr := B0.returns
  have hlocks := B0.notSynchronized
  have hz : ∀ w ∈ zT, w.before _ s = true := fun w h => atoms_spec (ws := Cond.codeWith yL_clock bL_clock 4 (some .int) [(0, 8, 11, 13)] :: zT) B0.pre w (List.mem_cons_of_mem _ h)
  have htb := zx_table B0 (atoms_spec (ws := Cond.codeWith yL_clock bL_clock 4 (some .int) [(0, 8, 11, 13)] :: zT) B0.pre _ List.mem_cons_self)
  have hown : s.vm.findClass RL = some m.cls := findClass_of_methodNamed B0.named
  have hK := hE.1
  have hl := lv_entry ([.ref x, .int a, .ref o]) (n := 4) (Nat.le_of_ble_eq_true rfl)
  rw [lg_entry_eq]
  generalize (lg_sl ([.ref x, .int a, .ref o]) ++ List.replicate (4 - (lg_sl ([.ref x, .int a, .ref o])).length) Slot.unset).toArray = ls at hl ⊢
  have hl : lv_has ls 4 [(0, .ref x), (1, .int a), (2, .ref o)] := hl
  have hS : va_S (zw_A B) s.heap s.heap [] := va_S.rf
  refine lv_aload_n hx hb dL_clock_0 rfl (lv_at hl 2 rfl) ?_
  refine lv_iconst (v := nI 0) hx hb dL_clock_1 (by decide) ?_
  refine lv_aload_n hx hb dL_clock_2 rfl (lv_at hl 0 rfl) ?_
  refine lv_iload_n hx hb dL_clock_3 rfl (lv_at hl 1 rfl) ?_
  refine zr_Vl (As := [.int a]) (rest := [.int (nI 0), .ref o]) (q := (RC, TC, 14)) (mc := mc) (ms := ms) ⟨hx, hb, hml, hown, hz⟩ hM (zt_V zm_370 zm_371 zm_372 zm_1 zm_373) rfl rfl rfl (show _ ∧ _ ∧ _ ∧ _ = some 1 from by decide +kernel) ⟨(show fr + 1 ≤ 7 by omega), (show 8 + (2 + 11) + lo ≤ 170 by omega)⟩ zE_blind (zE_at hE hS) hH hK hx0 rfl rfl hS hl.1 rfl (Nat.le_of_ble_eq_true rfl) dL_clock_4 ⟨(show 0 + mc ≤ 960 by omega), (show 0 + ms ≤ 3360 by omega)⟩ (fun r1 M1 sz1 H1 L1 hp hH hz1 hz2 hS => ?_)
  have ho1 : M1 o = some (.inl (G.2.1 1, 1, .inr (.inl f0))) := (hk r1 (M1, sz1) hp).trans ho
  refine zw_last hx hb hK hH hS 1 ho1 rfl (0) rfl (by decide) (by decide) dL_clock_7 (fun H2 L2 hH hz3 hS => ?_)
  refine lv_goto (tgt := 14) hx hb dL_clock_8 (by decide) ?_
  refine lv_iconst (v := nI 0) hx hb dL_clock_14 (by decide) ?_
  refine W.widen (k := 960) (n := 3360) (by omega) (by omega) ?_
  exact W.iret (v := nI 0) hx hb hr (fun t ht hW => ⟨⟨nI 0, (_, sz1), rfl, ⟨rfl, r1, (M1, sz1), hp, rfl, rfl⟩, by rw [ht]; exact hH, by rw [ht]; exact hz3.trans hz1⟩, hS.F ht⟩) hS.2.2 dL_clock_15
set_option maxHeartbeats 4000000 in
set_option maxRecDepth 100000 in
theorem tL_clock1 (l : Launch) (G : zG) (B : Nat) (M : zw_M) (sz x o : Nat) (fs : List Value) (hx0 : M x = some (.inr (1, fs))) (a : Int32) (hM : zx_Met l yC_clock (Cond.code yC_clock bC_clock 2 (some .long) :: zT) { frames := 6, cells := 1, slots := 6, locals := 82 } (zp G B M [.ref x, .int a]) "java/lang/IndexOutOfBoundsException" 1 6) : zMn l G B M sz yL_clock (Cond.codeWith yL_clock bL_clock 4 (some .int) [(0, 8, 11, 13)] :: zT) { frames := 7, cells := 960, slots := 3360, locals := 170 } [.ref x, .int a, .ref o] (fun r u => r = nI 1 ∧ u.1 = M ∧ sz ≤ u.2) 960 3360 := by
  refine va_MetW (cc := bL_clock) (maxL := 4) (ret := (some .int)) (hh := [(0, 8, 11, 13)]) (by decide) rfl ?_
  intro p e s m args below meth c s₁ B0 hml hv
  obtain ⟨rfl, ⟨hE, hN⟩, hH, hsz⟩ := hv
  subst hsz
  have hx := B0.exec
  have hb := B0.bytes
  have hr := B0.returns
  have hlocks := B0.notSynchronized
  have hz : ∀ w ∈ zT, w.before _ s = true := fun w h => atoms_spec (ws := Cond.codeWith yL_clock bL_clock 4 (some .int) [(0, 8, 11, 13)] :: zT) B0.pre w (List.mem_cons_of_mem _ h)
  have htb := zx_table B0 (atoms_spec (ws := Cond.codeWith yL_clock bL_clock 4 (some .int) [(0, 8, 11, 13)] :: zT) B0.pre _ List.mem_cons_self)
  have hown : s.vm.findClass RL = some m.cls := findClass_of_methodNamed B0.named
  have hK := hE.1
  have hl := lv_entry ([.ref x, .int a, .ref o]) (n := 4) (Nat.le_of_ble_eq_true rfl)
  rw [lg_entry_eq]
  generalize (lg_sl ([.ref x, .int a, .ref o]) ++ List.replicate (4 - (lg_sl ([.ref x, .int a, .ref o])).length) Slot.unset).toArray = ls at hl ⊢
  have hl : lv_has ls 4 [(0, .ref x), (1, .int a), (2, .ref o)] := hl
  have hS : va_S (zw_A B) s.heap s.heap [] := va_S.rf
  refine lv_aload_n hx hb dL_clock_0 rfl (lv_at hl 2 rfl) ?_
  refine lv_iconst (v := nI 0) hx hb dL_clock_1 (by decide) ?_
  refine lv_aload_n hx hb dL_clock_2 rfl (lv_at hl 0 rfl) ?_
  refine lv_iload_n hx hb dL_clock_3 rfl (lv_at hl 1 rfl) ?_
  obtain ⟨x1, hsp, ⟨a1, b1, c1, d1⟩⟩ := zx_t1 htb
  refine zx_tryV (As := [.int a]) (rest := [.int (nI 0), .ref o]) (C := RC) ⟨hx, hb, hml, hown, hz⟩ hM (cwV 1 hz (zt_V zm_370 zm_371 zm_372 zm_1 zm_373) rfl rfl rfl (show _ ∧ _ ∧ _ ∧ _ = some 1 from by decide +kernel) ⟨(show 6 + 1 ≤ 7 by omega), (show 8 + (2 + 11) + 82 ≤ 170 by omega)⟩) ⟨zr_blindp zE_blind _, va_recv hK (hH.one hx0) (q0 := 0) (q := (RC, TC, 14)) rfl rfl, fun U hU hW => ⟨rfl, zE_at hE hS U hU hW, by rw [hU]; exact hH⟩⟩ rfl hl.1 rfl (Nat.le_of_ble_eq_true rfl) dL_clock_4 ⟨(show 0 + 1 ≤ 960 by omega), (show 0 + 6 ≤ 3360 by omega)⟩ [] x1 [] hsp (fun z hz => absurd hz List.not_mem_nil) (by unfold covers; rw [a1, b1]; rfl) (by rw [d1]; decide) (nm := "java/lang/IndexOutOfBoundsException") (by rw [d1]; exact hz _ zm_143) (va_any rfl (hE.2.2.2.2.1 _ zC13)) (fun H1 q1 hz1 ho1 => ?_)
  rw [c1]
  have hH : zw_H G.1 zCl B M H1 := hH.kept ho1
  have hS : va_S (zw_A B) s.heap H1 [] := zw_S.new hS hz1 ho1
  refine lv_astore_n (lv' := [(3, .ref q1), (0, .ref x), (1, .int a), (2, .ref o)]) hx hb dL_clock_11 rfl hl (by decide) rfl (fun ls hl => ?_)
  refine lv_iconst (v := nI 1) hx hb dL_clock_12 (by decide) ?_
  refine W.widen (k := 960) (n := 3360) (by omega) (by omega) ?_
  exact W.iret (v := nI 1) hx hb hr (fun t ht hW => ⟨⟨nI 1, (M, H1.size), rfl, ⟨rfl, rfl, hz1⟩, by rw [ht]; exact hH, by rw [ht]⟩, hS.F ht⟩) hS.2.2 dL_clock_13
set_option maxHeartbeats 4000000 in
set_option maxRecDepth 100000 in
theorem rL_lacks (l : Launch) (G : zG) (B : Nat) (M : zw_M) (sz x o : Nat) (fs : List Value) (hx0 : M x = some (.inr (1, fs))) (f0 : Nat → Int64) (ho : M o = some (.inl (G.2.1 1, 1, .inr (.inl f0)))) (a : Int32) (post : Int32 → zw_M × Nat → Prop) (fr lo mc ms : Nat) (hfr : fr ≤ 6) (hlo : lo ≤ 140) (hmc : mc ≤ 960) (hms : ms ≤ 3360) (hM : zMi l G B M sz yC_lacks (Cond.code yC_lacks bC_lacks 2 (some .int) :: zT) { frames := fr, cells := mc, slots := ms, locals := lo } [.ref x, .int a] post mc ms) (hk : ∀ r u, post r u → u.1 o = M o) : zMn l G B M sz yL_lacks (Cond.codeWith yL_lacks bL_lacks 4 (some .int) [(0, 9, 12, 13)] :: zT) { frames := 7, cells := 960, slots := 3360, locals := 170 } [.ref x, .int a, .ref o] (fun r u => r = nI 0 ∧ ∃ v u1, post v u1 ∧ u.1 = zw_u u1.1 o (.inl (G.2.1 1, 1, .inr (.inl (vp_updL f0 0 v.toInt64)))) ∧ u.2 = u1.2) 960 3360 := by
  refine va_MetW (cc := bL_lacks) (maxL := 4) (ret := (some .int)) (hh := [(0, 9, 12, 13)]) (by decide) rfl ?_
  intro p e s m args below meth c s₁ B0 hml hv
  obtain ⟨rfl, ⟨hE, hN⟩, hH, hsz⟩ := hv
  subst hsz
  have hx := B0.exec
  have hb := B0.bytes
  have hr := B0.returns
  have hlocks := B0.notSynchronized
  have hz : ∀ w ∈ zT, w.before _ s = true := fun w h => atoms_spec (ws := Cond.codeWith yL_lacks bL_lacks 4 (some .int) [(0, 9, 12, 13)] :: zT) B0.pre w (List.mem_cons_of_mem _ h)
  have htb := zx_table B0 (atoms_spec (ws := Cond.codeWith yL_lacks bL_lacks 4 (some .int) [(0, 9, 12, 13)] :: zT) B0.pre _ List.mem_cons_self)
  have hown : s.vm.findClass RL = some m.cls := findClass_of_methodNamed B0.named
  have hK := hE.1
  have hl := lv_entry ([.ref x, .int a, .ref o]) (n := 4) (Nat.le_of_ble_eq_true rfl)
  rw [lg_entry_eq]
  generalize (lg_sl ([.ref x, .int a, .ref o]) ++ List.replicate (4 - (lg_sl ([.ref x, .int a, .ref o])).length) Slot.unset).toArray = ls at hl ⊢
  have hl : lv_has ls 4 [(0, .ref x), (1, .int a), (2, .ref o)] := hl
  have hS : va_S (zw_A B) s.heap s.heap [] := va_S.rf
  refine lv_aload_n hx hb dL_lacks_0 rfl (lv_at hl 2 rfl) ?_
  refine lv_iconst (v := nI 0) hx hb dL_lacks_1 (by decide) ?_
  refine lv_aload_n hx hb dL_lacks_2 rfl (lv_at hl 0 rfl) ?_
  refine lv_iload_n hx hb dL_lacks_3 rfl (lv_at hl 1 rfl) ?_
  refine zr_Vi (As := [.int a]) (rest := [.int (nI 0), .ref o]) (q := (RC, TC, 14)) (mc := mc) (ms := ms) ⟨hx, hb, hml, hown, hz⟩ hM (zt_V zm_377 zm_378 zm_379 zm_1 zm_380) rfl rfl rfl (show _ ∧ _ ∧ _ ∧ _ = some 1 from by decide +kernel) ⟨(show fr + 1 ≤ 7 by omega), (show 8 + (2 + 11) + lo ≤ 170 by omega)⟩ zE_blind (zE_at hE hS) hH hK hx0 rfl rfl hS hl.1 rfl (Nat.le_of_ble_eq_true rfl) dL_lacks_4 ⟨(show 0 + mc ≤ 960 by omega), (show 0 + ms ≤ 3360 by omega)⟩ (fun r1 M1 sz1 H1 L1 hp hH hz1 hz2 hS => ?_)
  have ho1 : M1 o = some (.inl (G.2.1 1, 1, .inr (.inl f0))) := (hk r1 (M1, sz1) hp).trans ho
  refine lv_i2l hx hb dL_lacks_7 rfl ?_
  refine zw_last hx hb hK hH hS 1 ho1 rfl (0) rfl (by decide) (by decide) dL_lacks_8 (fun H2 L2 hH hz3 hS => ?_)
  refine lv_goto (tgt := 15) hx hb dL_lacks_9 (by decide) ?_
  refine lv_iconst (v := nI 0) hx hb dL_lacks_15 (by decide) ?_
  refine W.widen (k := 960) (n := 3360) (by omega) (by omega) ?_
  exact W.iret (v := nI 0) hx hb hr (fun t ht hW => ⟨⟨nI 0, (_, sz1), rfl, ⟨rfl, r1, (M1, sz1), hp, rfl, rfl⟩, by rw [ht]; exact hH, by rw [ht]; exact hz3.trans hz1⟩, hS.F ht⟩) hS.2.2 dL_lacks_16
set_option maxHeartbeats 4000000 in
set_option maxRecDepth 100000 in
theorem tL_lacks1 (l : Launch) (G : zG) (B : Nat) (M : zw_M) (sz x o : Nat) (fs : List Value) (hx0 : M x = some (.inr (1, fs))) (a : Int32) (hM : zx_Met l yC_lacks (Cond.code yC_lacks bC_lacks 2 (some .int) :: zT) { frames := 6, cells := 1, slots := 6, locals := 82 } (zp G B M [.ref x, .int a]) "java/lang/IndexOutOfBoundsException" 1 6) : zMn l G B M sz yL_lacks (Cond.codeWith yL_lacks bL_lacks 4 (some .int) [(0, 9, 12, 13)] :: zT) { frames := 7, cells := 960, slots := 3360, locals := 170 } [.ref x, .int a, .ref o] (fun r u => r = nI 1 ∧ u.1 = M ∧ sz ≤ u.2) 960 3360 := by
  refine va_MetW (cc := bL_lacks) (maxL := 4) (ret := (some .int)) (hh := [(0, 9, 12, 13)]) (by decide) rfl ?_
  intro p e s m args below meth c s₁ B0 hml hv
  obtain ⟨rfl, ⟨hE, hN⟩, hH, hsz⟩ := hv
  subst hsz
  have hx := B0.exec
  have hb := B0.bytes
  have hr := B0.returns
  have hlocks := B0.notSynchronized
  have hz : ∀ w ∈ zT, w.before _ s = true := fun w h => atoms_spec (ws := Cond.codeWith yL_lacks bL_lacks 4 (some .int) [(0, 9, 12, 13)] :: zT) B0.pre w (List.mem_cons_of_mem _ h)
  have htb := zx_table B0 (atoms_spec (ws := Cond.codeWith yL_lacks bL_lacks 4 (some .int) [(0, 9, 12, 13)] :: zT) B0.pre _ List.mem_cons_self)
  have hown : s.vm.findClass RL = some m.cls := findClass_of_methodNamed B0.named
  have hK := hE.1
  have hl := lv_entry ([.ref x, .int a, .ref o]) (n := 4) (Nat.le_of_ble_eq_true rfl)
  rw [lg_entry_eq]
  generalize (lg_sl ([.ref x, .int a, .ref o]) ++ List.replicate (4 - (lg_sl ([.ref x, .int a, .ref o])).length) Slot.unset).toArray = ls at hl ⊢
  have hl : lv_has ls 4 [(0, .ref x), (1, .int a), (2, .ref o)] := hl
  have hS : va_S (zw_A B) s.heap s.heap [] := va_S.rf
  refine lv_aload_n hx hb dL_lacks_0 rfl (lv_at hl 2 rfl) ?_
  refine lv_iconst (v := nI 0) hx hb dL_lacks_1 (by decide) ?_
  refine lv_aload_n hx hb dL_lacks_2 rfl (lv_at hl 0 rfl) ?_
  refine lv_iload_n hx hb dL_lacks_3 rfl (lv_at hl 1 rfl) ?_
  obtain ⟨x1, hsp, ⟨a1, b1, c1, d1⟩⟩ := zx_t1 htb
  refine zx_tryV (As := [.int a]) (rest := [.int (nI 0), .ref o]) (C := RC) ⟨hx, hb, hml, hown, hz⟩ hM (cwV 1 hz (zt_V zm_377 zm_378 zm_379 zm_1 zm_380) rfl rfl rfl (show _ ∧ _ ∧ _ ∧ _ = some 1 from by decide +kernel) ⟨(show 6 + 1 ≤ 7 by omega), (show 8 + (2 + 11) + 82 ≤ 170 by omega)⟩) ⟨zr_blindp zE_blind _, va_recv hK (hH.one hx0) (q0 := 0) (q := (RC, TC, 14)) rfl rfl, fun U hU hW => ⟨rfl, zE_at hE hS U hU hW, by rw [hU]; exact hH⟩⟩ rfl hl.1 rfl (Nat.le_of_ble_eq_true rfl) dL_lacks_4 ⟨(show 0 + 1 ≤ 960 by omega), (show 0 + 6 ≤ 3360 by omega)⟩ [] x1 [] hsp (fun z hz => absurd hz List.not_mem_nil) (by unfold covers; rw [a1, b1]; rfl) (by rw [d1]; decide) (nm := "java/lang/IndexOutOfBoundsException") (by rw [d1]; exact hz _ zm_143) (va_any rfl (hE.2.2.2.2.1 _ zC13)) (fun H1 q1 hz1 ho1 => ?_)
  rw [c1]
  have hH : zw_H G.1 zCl B M H1 := hH.kept ho1
  have hS : va_S (zw_A B) s.heap H1 [] := zw_S.new hS hz1 ho1
  refine lv_astore_n (lv' := [(3, .ref q1), (0, .ref x), (1, .int a), (2, .ref o)]) hx hb dL_lacks_12 rfl hl (by decide) rfl (fun ls hl => ?_)
  refine lv_iconst (v := nI 1) hx hb dL_lacks_13 (by decide) ?_
  refine W.widen (k := 960) (n := 3360) (by omega) (by omega) ?_
  exact W.iret (v := nI 1) hx hb hr (fun t ht hW => ⟨⟨nI 1, (M, H1.size), rfl, ⟨rfl, rfl, hz1⟩, by rw [ht]; exact hH, by rw [ht]⟩, hS.F ht⟩) hS.2.2 dL_lacks_14
