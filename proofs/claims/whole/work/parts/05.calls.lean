/-! CALLS by contracts over maps. Ev: what every state of the run has (tables, statics). zp: a reader's start; zq: a writer's start, with the heap's size; zo: what is behind a writer: the new map and the new size. -/
def zr_p (Ev : State → Prop) (D : va_G) (cl : List vw_C) (B : Nat) (M : zw_M) (av : List Value) : Array Value → State → Prop := va_Pc av (fun U => Ev U ∧ zw_H D cl B M U.heap)
def zr_q (Ev : State → Prop) (D : va_G) (cl : List vw_C) (B : Nat) (M : zw_M) (sz : Nat) (av : List Value) : Array Value → State → Prop := va_Pc av (fun U => Ev U ∧ zw_H D cl B M U.heap ∧ U.heap.size = sz)
def zr_o (D : va_G) (cl : List vw_C) (B : Nat) : zw_M × Nat → State → Prop := fun u t => zw_H D cl B u.1 t.heap ∧ t.heap.size = u.2
section ZR
variable {p : Program} {l : Launch} {e : Env} {R : Room} {s : State} {m : MethodId} {args : Array Value} {below : List Frame} {meth : Method} {c : Code} {H : Heap} {locs : List Loc} {cells slots : Nat} {Q : State → Prop}
variable {cc : ByteArray} {pc : Nat} {ls : Array Slot} {rest st0 : List Value} {D : va_G} {cl : List vw_C} {B b : Nat} {tys : List (ClassId × FieldType)} {M : zw_M} {H0 : Heap} {Ev : State → Prop}
variable {y : MethodName} {bytes : ByteArray} {maxL nL mc ms n index : Nat} {ret : Option FieldType} {ws ws' : List Cond} {rm : Room} {Ts : List Cond} {own C : String} {As : List Value}
theorem zr_blindp (hbl : ∀ (U : State) (g : JFrame) (mk : MethodId) (a : Array Value), Ev U → Ev (U.calling g mk a)) (av : List Value) : FrameBlind (zr_p Ev D cl B M av) := fun a U g mk q => ⟨q.1, hbl _ _ _ _ q.2.1, q.2.2⟩
theorem zr_blindq (hbl : ∀ (U : State) (g : JFrame) (mk : MethodId) (a : Array Value), Ev U → Ev (U.calling g mk a)) {sz : Nat} (av : List Value) : FrameBlind (zr_q Ev D cl B M sz av) := fun a U g mk q => ⟨q.1, hbl _ _ _ _ q.2.1, q.2.2.1, q.2.2.2⟩
/-- a reader, invokevirtual -/
theorem zr_V {r : Value} (S : CallFix p m c cc nL s args Ts own) (hM : Met l y ws rm (zr_p Ev D cl B M (.ref b :: As)) (k2_QcV r) 0 0 (fun _ => False)) (hT : GoodIn Ts (wsV own index C y ws)) (hw : ws = Cond.code y bytes maxL ret :: ws') (hrc : rm.cells = 0) (hrs : rm.slots = 0)
    (hd : y.cls = C ∧ y.cls ≠ "java/lang/invoke/MethodHandle" ∧ y.cls ≠ "java/lang/invoke/VarHandle" ∧ (parseMethodDescriptor y.desc).map (fun d => d.parameters.length) = some As.length) (hR : rm.frames + 1 ≤ R.frames ∧ 8 + (maxL + 11) + rm.locals ≤ R.locals)
    (hbl : ∀ (U : State) (g : JFrame) (mk : MethodId) (a : Array Value), Ev U → Ev (U.calling g mk a)) (hmv : ∀ U : State, U.heap = H → s.WarmedH U.vm → Ev U) (hH : zw_H D cl B M H) (hK : va_K D cl tys s) {ci : Nat} {fs : List Value} {q : vw_C} (hb0 : M b = some (.inr (ci, fs))) (hc : cl[ci]? = some q) (hq : q.1 = C)
    (hsize : ls.size = nL) (hstack : st0 = As.reverse ++ .ref b :: rest) (h8 : (rest.map fun v => v.category).sum ≤ 8) (hdg : decode cc pc = .ok (.invokevirtual index, 3)) (hf : cells ≤ R.cells ∧ slots ≤ R.slots)
    (kk : W p l e R s m args below meth c H locs cells slots Q (F0 m (pc + 3) ls (r :: rest))) : W p l e R s m args below meth c H locs cells slots Q (F0 m pc ls st0) := by
  subst hq
  refine W.callV (W.runV (As := As) (rest := rest) S hM (cwV As.length S.2.2.2.2 hT hw hrc hrs hd hR) ⟨zr_blindp hbl _, va_recv hK (hH.one hb0) (q0 := 0) hc rfl, fun U hU hW => ⟨rfl, hmv U hU hW, by rw [hU]; exact hH⟩⟩ rfl rfl hsize hstack (by show 2 * 0 + _ ≤ 8; omega) hdg ⟨hf.1, hf.2⟩) kk
/-- a reader, invokestatic -/
theorem zr_S {r : Value} (S : CallFix p m c cc nL s args Ts own) (hM : Met l y ws rm (zr_p Ev D cl B M As) (k2_QcV r) 0 0 (fun _ => False)) (hT : GoodIn Ts (wsS own index y ws)) (hw : ws = Cond.code y bytes maxL ret :: ws') (hrc : rm.cells = 0) (hrs : rm.slots = 0)
    (hd : y.cls = own ∧ y.cls ≠ "java/lang/invoke/MethodHandle" ∧ y.cls ≠ "java/lang/invoke/VarHandle" ∧ (parseMethodDescriptor y.desc).map (fun d => d.parameters.length) = some As.length) (hR : rm.frames + 1 ≤ R.frames ∧ 8 + (maxL + 11) + rm.locals ≤ R.locals)
    (hbl : ∀ (U : State) (g : JFrame) (mk : MethodId) (a : Array Value), Ev U → Ev (U.calling g mk a)) (hmv : ∀ U : State, U.heap = H → s.WarmedH U.vm → Ev U) (hH : zw_H D cl B M H)
    (hsize : ls.size = nL) (hstack : st0 = As.reverse ++ rest) (h8 : (rest.map fun v => v.category).sum ≤ 8) (hdg : decode cc pc = .ok (.invokestatic index, 3)) (hf : cells ≤ R.cells ∧ slots ≤ R.slots)
    (kk : W p l e R s m args below meth c H locs cells slots Q (F0 m (pc + 3) ls (r :: rest))) : W p l e R s m args below meth c H locs cells slots Q (F0 m pc ls st0) := by
  refine W.callV (W.runS (As := As) (rest := rest) S hM (cwS As.length S.2.2.2.2 hT hw hrc hrs hd hR) ⟨zr_blindp hbl _, fun U hU hW => ⟨rfl, hmv U hU hW, by rw [hU]; exact hH⟩⟩ rfl rfl hsize hstack (by show 2 * 0 + _ ≤ 8; omega) hdg ⟨hf.1, hf.2⟩) kk
/-- a writer with an int answer, invokevirtual -/
theorem zr_Vi {post : Int32 → zw_M × Nat → Prop} (S : CallFix p m c cc nL s args Ts own) (hM : Met l y ws rm (zr_q Ev D cl B M H.size (.ref b :: As)) (va_Qi post (zr_o D cl B) (zw_A B)) mc ms (zw_A B)) (hT : GoodIn Ts (wsV own index C y ws)) (hw : ws = Cond.code y bytes maxL ret :: ws') (hrc : rm.cells = mc) (hrs : rm.slots = ms)
    (hd : y.cls = C ∧ y.cls ≠ "java/lang/invoke/MethodHandle" ∧ y.cls ≠ "java/lang/invoke/VarHandle" ∧ (parseMethodDescriptor y.desc).map (fun d => d.parameters.length) = some As.length) (hR : rm.frames + 1 ≤ R.frames ∧ 8 + (maxL + 11) + rm.locals ≤ R.locals)
    (hbl : ∀ (U : State) (g : JFrame) (mk : MethodId) (a : Array Value), Ev U → Ev (U.calling g mk a)) (hmv : ∀ U : State, U.heap = H → s.WarmedH U.vm → Ev U) (hH : zw_H D cl B M H) (hK : va_K D cl tys s) {ci : Nat} {fs : List Value} {q : vw_C} (hb0 : M b = some (.inr (ci, fs))) (hc : cl[ci]? = some q) (hq : q.1 = C) (hS : va_S (zw_A B) H0 H locs)
    (hsize : ls.size = nL) (hstack : st0 = As.reverse ++ .ref b :: rest) (h8 : (rest.map fun v => v.category).sum ≤ 8) (hdg : decode cc pc = .ok (.invokevirtual index, 3)) (hf : cells + mc ≤ R.cells ∧ slots + ms ≤ R.slots)
    (kk : ∀ (r : Int32) (M1 : zw_M) (sz1 : Nat) (H1 : Heap) (locs1 : List Loc), post r (M1, sz1) → zw_H D cl B M1 H1 → H1.size = sz1 → H.size ≤ H1.size → va_S (zw_A B) H0 H1 locs1 → W p l e R s m args below meth c H1 locs1 (cells + mc) (slots + ms) Q (F0 m (pc + 3) ls (.int r :: rest))) : W p l e R s m args below meth c H locs cells slots Q (F0 m pc ls st0) := by
  subst hq
  refine va_calli (va_runV (As := As) (rest := rest) S hM (cwV As.length S.2.2.2.2 hT hw hrc hrs hd hR) ⟨zr_blindq hbl _, va_recv hK (hH.one hb0) (q0 := 0) hc rfl, fun U hU hW => ⟨rfl, hmv U hU hW, by rw [hU]; exact hH, by rw [hU]⟩⟩ rfl rfl hsize hstack (by show 2 * 0 + _ ≤ 8; omega) hdg hf) hS (fun q _ h => h) (fun q h => h) (fun r u t H1 locs1 ht hvm hw1 hB hz1 hk1 hS1 => ?_)
  subst ht
  exact kk r u.1 u.2 _ locs1 hw1 hB.1 hB.2 hz1 hS1
/-- a writer without an answer, invokevirtual -/
theorem zr_Vv {post : zw_M × Nat → Prop} (S : CallFix p m c cc nL s args Ts own) (hM : Met l y ws rm (zr_q Ev D cl B M H.size (.ref b :: As)) (va_Qv post (zr_o D cl B) (zw_A B)) mc ms (zw_A B)) (hT : GoodIn Ts (wsV own index C y ws)) (hw : ws = Cond.code y bytes maxL ret :: ws') (hrc : rm.cells = mc) (hrs : rm.slots = ms)
    (hd : y.cls = C ∧ y.cls ≠ "java/lang/invoke/MethodHandle" ∧ y.cls ≠ "java/lang/invoke/VarHandle" ∧ (parseMethodDescriptor y.desc).map (fun d => d.parameters.length) = some As.length) (hR : rm.frames + 1 ≤ R.frames ∧ 8 + (maxL + 11) + rm.locals ≤ R.locals)
    (hbl : ∀ (U : State) (g : JFrame) (mk : MethodId) (a : Array Value), Ev U → Ev (U.calling g mk a)) (hmv : ∀ U : State, U.heap = H → s.WarmedH U.vm → Ev U) (hH : zw_H D cl B M H) (hK : va_K D cl tys s) {ci : Nat} {fs : List Value} {q : vw_C} (hb0 : M b = some (.inr (ci, fs))) (hc : cl[ci]? = some q) (hq : q.1 = C) (hS : va_S (zw_A B) H0 H locs)
    (hsize : ls.size = nL) (hstack : st0 = As.reverse ++ .ref b :: rest) (h8 : (rest.map fun v => v.category).sum ≤ 8) (hdg : decode cc pc = .ok (.invokevirtual index, 3)) (hf : cells + mc ≤ R.cells ∧ slots + ms ≤ R.slots)
    (kk : ∀ (M1 : zw_M) (sz1 : Nat) (H1 : Heap) (locs1 : List Loc), post (M1, sz1) → zw_H D cl B M1 H1 → H1.size = sz1 → H.size ≤ H1.size → va_S (zw_A B) H0 H1 locs1 → W p l e R s m args below meth c H1 locs1 (cells + mc) (slots + ms) Q (F0 m (pc + 3) ls rest)) : W p l e R s m args below meth c H locs cells slots Q (F0 m pc ls st0) := by
  subst hq
  refine va_callv (va_runV (As := As) (rest := rest) S hM (cwV As.length S.2.2.2.2 hT hw hrc hrs hd hR) ⟨zr_blindq hbl _, va_recv hK (hH.one hb0) (q0 := 0) hc rfl, fun U hU hW => ⟨rfl, hmv U hU hW, by rw [hU]; exact hH, by rw [hU]⟩⟩ rfl rfl hsize hstack (by show 2 * 0 + _ ≤ 8; omega) hdg hf) hS (fun q _ h => h) (fun q h => h) (fun u t H1 locs1 ht hvm hw1 hB hz1 hk1 hS1 => ?_)
  subst ht
  exact kk u.1 u.2 _ locs1 hw1 hB.1 hB.2 hz1 hS1
/-- a constructor, invokespecial -/
theorem zr_I {post : zw_M × Nat → Prop} (S : CallFix p m c cc nL s args Ts own) (hM : Met l y ws rm (zr_q Ev D cl B M H.size (.ref b :: As)) (va_Qv post (zr_o D cl B) (zw_A B)) mc ms (zw_A B)) (hT : GoodIn Ts ws) (hw : ws = Cond.code y bytes maxL none :: ws') (hrc : rm.cells = mc) (hrs : rm.slots = ms) (hini : (Cond.initialized y.cls).before args s = true) (hlk : (Cond.methodLink own index y).before args s = true) (hin : (Cond.instanceMethod y).before args s = true) (hy : y.name = "<init>")
    (hd : y.cls ≠ "java/lang/invoke/MethodHandle" ∧ y.cls ≠ "java/lang/invoke/VarHandle" ∧ (parseMethodDescriptor y.desc).map (fun d => d.parameters.length) = some As.length) (hR : rm.frames + 1 ≤ R.frames ∧ 8 + (maxL + 11) + rm.locals ≤ R.locals)
    (hbl : ∀ (U : State) (g : JFrame) (mk : MethodId) (a : Array Value), Ev U → Ev (U.calling g mk a)) (hmv : ∀ U : State, U.heap = H → s.WarmedH U.vm → Ev U) (hH : zw_H D cl B M H) (hS : va_S (zw_A B) H0 H locs)
    (hsize : ls.size = nL) (hstack : st0 = As.reverse ++ .ref b :: rest) (h8 : (rest.map fun v => v.category).sum ≤ 8) (hdg : decode cc pc = .ok (.invokespecial index, 3)) (hf : cells + mc ≤ R.cells ∧ slots + ms ≤ R.slots)
    (kk : ∀ (M1 : zw_M) (sz1 : Nat) (H1 : Heap) (locs1 : List Loc), post (M1, sz1) → zw_H D cl B M1 H1 → H1.size = sz1 → H.size ≤ H1.size → va_S (zw_A B) H0 H1 locs1 → W p l e R s m args below meth c H1 locs1 (cells + mc) (slots + ms) Q (F0 m (pc + 3) ls rest)) : W p l e R s m args below meth c H locs cells slots Q (F0 m pc ls st0) := by
  refine va_callv (va_runI (As := As) (rest := rest) S hM ⟨callB_of As.length S.2.2.2.2 hT hw hrc hrs hini hlk hd hR, hy, hin⟩ ⟨zr_blindq hbl _, fun U hU hW => ⟨rfl, hmv U hU hW, by rw [hU]; exact hH, by rw [hU]⟩⟩ rfl rfl hsize hstack (by show 2 * 0 + _ ≤ 8; omega) hdg hf) hS (fun q _ h => h) (fun q h => h) (fun u t H1 locs1 ht hvm hw1 hB hz1 hk1 hS1 => ?_)
  subst ht
  exact kk u.1 u.2 _ locs1 hw1 hB.1 hB.2 hz1 hS1
end ZR
