/-! more calls: a long answer, and an array as an answer of a static method -/
section ZR2
variable {p : Program} {l : Launch} {e : Env} {R : Room} {s : State} {m : MethodId} {args : Array Value} {below : List Frame} {meth : Method} {c : Code} {H : Heap} {locs : List Loc} {cells slots : Nat} {Q : State → Prop}
variable {cc : ByteArray} {pc : Nat} {ls : Array Slot} {rest st0 : List Value} {D : va_G} {cl : List vw_C} {B b : Nat} {tys : List (ClassId × FieldType)} {M : zw_M} {H0 : Heap} {Ev : State → Prop}
variable {y : MethodName} {bytes : ByteArray} {maxL nL mc ms n index : Nat} {ret : Option FieldType} {ws ws' : List Cond} {rm : Room} {Ts : List Cond} {own C : String} {As : List Value}
theorem zr_Vl {post : Int64 → zw_M × Nat → Prop} (S : CallFix p m c cc nL s args Ts own) (hM : Met l y ws rm (zr_q Ev D cl B M H.size (.ref b :: As)) (va_Ql post (zr_o D cl B) (zw_A B)) mc ms (zw_A B)) (hT : GoodIn Ts (wsV own index C y ws)) (hw : ws = Cond.code y bytes maxL ret :: ws') (hrc : rm.cells = mc) (hrs : rm.slots = ms)
    (hd : y.cls = C ∧ y.cls ≠ "java/lang/invoke/MethodHandle" ∧ y.cls ≠ "java/lang/invoke/VarHandle" ∧ (parseMethodDescriptor y.desc).map (fun d => d.parameters.length) = some As.length) (hR : rm.frames + 1 ≤ R.frames ∧ 8 + (maxL + 11) + rm.locals ≤ R.locals)
    (hbl : ∀ (U : State) (g : JFrame) (mk : MethodId) (a : Array Value), Ev U → Ev (U.calling g mk a)) (hmv : ∀ U : State, U.heap = H → s.WarmedH U.vm → Ev U) (hH : zw_H D cl B M H) (hK : va_K D cl tys s) {ci : Nat} {fs : List Value} {q : vw_C} (hb0 : M b = some (.inr (ci, fs))) (hc : cl[ci]? = some q) (hq : q.1 = C) (hS : va_S (zw_A B) H0 H locs)
    (hsize : ls.size = nL) (hstack : st0 = As.reverse ++ .ref b :: rest) (h8 : (rest.map fun v => v.category).sum ≤ 8) (hdg : decode cc pc = .ok (.invokevirtual index, 3)) (hf : cells + mc ≤ R.cells ∧ slots + ms ≤ R.slots)
    (kk : ∀ (r : Int64) (M1 : zw_M) (sz1 : Nat) (H1 : Heap) (locs1 : List Loc), post r (M1, sz1) → zw_H D cl B M1 H1 → H1.size = sz1 → H.size ≤ H1.size → va_S (zw_A B) H0 H1 locs1 → W p l e R s m args below meth c H1 locs1 (cells + mc) (slots + ms) Q (F0 m (pc + 3) ls (.long r :: rest))) : W p l e R s m args below meth c H locs cells slots Q (F0 m pc ls st0) := by
  subst hq
  refine va_calll (va_runV (As := As) (rest := rest) S hM (cwV As.length S.2.2.2.2 hT hw hrc hrs hd hR) ⟨zr_blindq hbl _, va_recv hK (hH.one hb0) (q0 := 0) hc rfl, fun U hU hW => ⟨rfl, hmv U hU hW, by rw [hU]; exact hH, by rw [hU]⟩⟩ rfl rfl hsize hstack (by show 2 * 0 + _ ≤ 8; omega) hdg hf) hS (fun q _ h => h) (fun q h => h) (fun r u t H1 locs1 ht hvm hw1 hB hz1 hk1 hS1 => ?_)
  subst ht
  exact kk r u.1 u.2 _ locs1 hw1 hB.1 hB.2 hz1 hS1
/-- a static call over a longer stack: up to 12 words below the arguments -/
theorem zr_run12 {Pc : Array Value → State → Prop} {Qc : Array Value → State → Outcome → State → Prop} {free : Addr → Prop} {g : JFrame} (S : CallFix p m c cc nL s args Ts own) (hM : Met l y ws rm Pc Qc mc ms free) (cw : CallB R s args own index y bytes maxL ret ws rm mc ms n ∧ (Cond.static y).before args s = true) (h12 : 12 + (maxL + 11) + rm.locals ≤ R.locals) (hp : PreS s H Pc As)
    (hg : g.method = m) (hn : As.length = n) (hsize : g.locals.size = nL) (hstack : g.stack = As.reverse ++ rest) (hW : 2 * g.monitorRoom + (rest.map fun v => v.category).sum ≤ 12) (hdg : decode cc g.pc = .ok (.invokestatic index, 3)) (hf : cells + mc ≤ R.cells ∧ slots + ms ≤ R.slots) :
    va_Run p l e R s m args below meth c H locs cells slots mc ms g rest (Qc As.toArray) (free) := by
  obtain ⟨⟨hrc, hrs, hfr, -, hws, hcw, hcode, hini, hy, hlen, hl⟩, hstt⟩ := cw
  have hB : Back l R p e below s args y 3 12 (PreOf R mc ms Pc) (PostOf Qc mc ms free) := back_of (bytes := bytes) (maxL := maxL) (ret := ret) hM hp.1 hrc hrs hfr h12 hws hcw (fun a' U hW => word_at hW (Or.inl (by first | rfl | simp [Cond.onTables, Cond.keeps, Cond.steady])) hini)
  obtain ⟨hx, hb, hml, ho, -⟩ := S
  intro T hT X
  obtain ⟨v, vm₁, ⟨U', l2, c2, s2⟩, hW₁, X', ⟨g', mk, t, L, e1, e2, hq, h1, hL, h2, h3⟩, st⟩ := callS X hx (bytes := bytes) (maxL := maxL) (ret := ret) ho hl hstt hini hcode hy hB hg (hsize.trans hml.symm) (argsL := As) (rest := rest) (fun sig h => hn.trans (hlen sig h)) hstack hW (by rw [hb]; exact hdg)
    (fun vm₁ hW₁ => ⟨hf.1, hf.2, hp.2 (T.setVm vm₁) hT hW₁⟩)
  dsimp only [Pt.U, Pt.locs, Pt.cells, Pt.slots] at X' e1 e2 h1 h2 h3 st
  subst h1; subst h2; subst h3
  exact ⟨v, (T.setVm vm₁).calling g' mk As.toArray, t, U', L, hT, X', hL, e1, e2, hq, st⟩
/-- an array as the answer of a static method of another class: its address comes with the map -/
theorem zr_Sr {post : zw_M × Nat → Nat → Prop} (S : CallFix p m c cc nL s args Ts own) (hM : Met l y ws rm (zr_q Ev D cl B M H.size As) (va_Qr (fun _ => True) (fun u a t => zr_o D cl B u t ∧ post u a) (zw_A B)) mc ms (zw_A B)) (hT : GoodIn Ts ws) (hw : ws = Cond.code y bytes maxL ret :: ws') (hrc : rm.cells = mc) (hrs : rm.slots = ms) (hini : (Cond.initialized y.cls).before args s = true) (hlk : (Cond.methodLink own index y).before args s = true) (hst : (Cond.static y).before args s = true)
    (hd : y.cls ≠ "java/lang/invoke/MethodHandle" ∧ y.cls ≠ "java/lang/invoke/VarHandle" ∧ (parseMethodDescriptor y.desc).map (fun d => d.parameters.length) = some As.length) (hR : rm.frames + 1 ≤ R.frames ∧ 8 + (maxL + 11) + rm.locals ≤ R.locals)
    (h12 : 12 + (maxL + 11) + rm.locals ≤ R.locals) (hbl : ∀ (U : State) (g : JFrame) (mk : MethodId) (a : Array Value), Ev U → Ev (U.calling g mk a)) (hmv : ∀ U : State, U.heap = H → s.WarmedH U.vm → Ev U) (hH : zw_H D cl B M H) (hS : va_S (zw_A B) H0 H locs)
    (hsize : ls.size = nL) (hstack : st0 = As.reverse ++ rest) (h8 : (rest.map fun v => v.category).sum ≤ 12) (hdg : decode cc pc = .ok (.invokestatic index, 3)) (hf : cells + mc ≤ R.cells ∧ slots + ms ≤ R.slots)
    (kk : ∀ (r : Nat) (M1 : zw_M) (sz1 : Nat) (H1 : Heap) (locs1 : List Loc), post (M1, sz1) r → zw_H D cl B M1 H1 → H1.size = sz1 → H.size ≤ H1.size → va_S (zw_A B) H0 H1 locs1 → W p l e R s m args below meth c H1 locs1 (cells + mc) (slots + ms) Q (F0 m (pc + 3) ls (.ref r :: rest))) : W p l e R s m args below meth c H locs cells slots Q (F0 m pc ls st0) := by
  refine va_callr (zr_run12 (As := As) (rest := rest) S hM ⟨callB_of As.length S.2.2.2.2 hT hw hrc hrs hini hlk hd hR, hst⟩ h12 ⟨zr_blindq hbl _, fun U hU hW => ⟨rfl, hmv U hU hW, by rw [hU]; exact hH, by rw [hU]⟩⟩ rfl rfl hsize hstack (by show 2 * 0 + _ ≤ 12; omega) hdg hf) hS (fun q _ h => h) (fun q h => h) (fun u ra t H1 locs1 ht hvm hw1 hB hz1 hk1 hS1 => ?_)
  subst ht
  exact kk ra u.1 u.2 _ locs1 hB.2 hB.1.1 hB.1.2 hz1 hS1
end ZR2
/-- the map holds this already -/
theorem zw_ui {M : zw_M} {a : Nat} {e : va_E} (h : M a = some e) : zw_u M a e = M := by
  funext q
  by_cases hq : q = a
  · subst hq; rw [zw_us, h]
  · rw [zw_un _ _ hq]
theorem zMr.ex {G : zG} {M : zw_M} {L q : Nat} {mg : zMg} (h : zMr G M L q mg) : L < q ∧ ∃ fs, M q = some (.inr (0, fs)) := by
  unfold zMr at h
  obtain ⟨h1, h2⟩ := h
  refine ⟨h1, ?_⟩
  cases hk : mg.ck with
  | some k => rw [hk] at h2; exact ⟨_, h2⟩
  | none => rw [hk] at h2; obtain ⟨ch, f, -, a2, -⟩ := h2; exact ⟨_, a2⟩
theorem zCR.at {G : zG} {M : zw_M} {x z L n mb : Nat} {st : zSt} {qs : List Nat} {g : Nat → Int32} (h : zCR G M x z L n mb st qs g) {j : Nat} (hj : j < st.fl.length) : ∃ (q : Nat) (mg : zMg), qs[j]? = some q ∧ st.fl[j]? = some mg ∧ zMr G M L q mg := by
  have h1 : j < qs.length := by rw [h.len]; exact hj
  exact ⟨_, _, List.getElem?_eq_getElem h1, List.getElem?_eq_getElem hj, h.msg j _ _ (List.getElem?_eq_getElem h1) (List.getElem?_eq_getElem hj)⟩
