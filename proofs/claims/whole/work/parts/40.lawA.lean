/-! THE LAW'S HELPERS: static methods with a table of handlers; contracts made wider -/
section ZRW
variable {p : Program} {l : Launch} {e : Env} {R : Room} {s : State} {m : MethodId} {args : Array Value} {below : List Frame} {meth : Method} {c : Code} {H : Heap} {locs : List Loc} {cells slots : Nat} {Q : State → Prop}
variable {cc : ByteArray} {pc : Nat} {ls : Array Slot} {rest st0 : List Value} {D : va_G} {cl : List vw_C} {B b : Nat} {tys : List (ClassId × FieldType)} {M : zw_M} {H0 : Heap} {Ev : State → Prop}
variable {y : MethodName} {bytes : ByteArray} {maxL nL mc ms n index : Nat} {ret : Option FieldType} {ws ws' : List Cond} {rm : Room} {Ts : List Cond} {own C : String} {As : List Value}
theorem zr_runSW {Pc : Array Value → State → Prop} {Qc : Array Value → State → Outcome → State → Prop} {free : Addr → Prop} {g : JFrame} {hh : List (Nat × Nat × Nat × Nat)} (S : CallFix p m c cc nL s args Ts own) (hM : Met l y ws rm Pc Qc mc ms free) (hG : GoodIn Ts ws) (hw : ws = Cond.codeWith y bytes maxL ret hh :: ws') (hrc : rm.cells = mc) (hrs : rm.slots = ms)
    (hini : (Cond.initialized y.cls).before args s = true) (hlk : (Cond.methodLink own index y).before args s = true) (hst : (Cond.static y).before args s = true)
    (hd : y.cls ≠ "java/lang/invoke/MethodHandle" ∧ y.cls ≠ "java/lang/invoke/VarHandle" ∧ (parseMethodDescriptor y.desc).map (fun d => d.parameters.length) = some As.length) (hR : rm.frames + 1 ≤ R.frames ∧ 8 + (maxL + 11) + rm.locals ≤ R.locals) (hp : PreS s H Pc As)
    (hg : g.method = m) (hsize : g.locals.size = nL) (hstack : g.stack = As.reverse ++ rest) (hW : 2 * g.monitorRoom + (rest.map fun v => v.category).sum ≤ 8) (hdg : decode cc g.pc = .ok (.invokestatic index, 3)) (hf : cells + mc ≤ R.cells ∧ slots + ms ≤ R.slots) :
    va_Run p l e R s m args below meth c H locs cells slots mc ms g rest (Qc As.toArray) (free) := by
  obtain ⟨hx, hb, hml, ho, ht⟩ := S
  have hc : Cond.codeWith y bytes maxL ret hh ∈ ws := by rw [hw]; exact List.mem_cons_self
  have hcode := ht _ (hG _ hc).1
  have hB : Back l R p e below s args y 3 8 (PreOf R mc ms Pc) (PostOf Qc mc ms free) := va_backW (hh := hh) (bytes := bytes) (maxL := maxL) (ret := ret) hM hp.1 hrc hrs hR.1 hR.2 (pay_in ht hG) hc (fun a' U hW => word_at hW (Or.inl (by first | rfl | simp [Cond.onTables, Cond.keeps, Cond.steady])) hini)
  intro T hT X
  obtain ⟨mk, methM, cM, hnamed, hmethM, -, -, -, -, -, -, hsigM⟩ := Cond.codeWith_spec hcode
  have hstatic : methM.isStatic = true := Cond.static_spec hnamed hmethM hst
  obtain ⟨kP, hkP, -⟩ := className_of_methodNamed hnamed
  have hinitP : kP.init = .initialized := Cond.initialized_spec (findClass_of_methodNamed hnamed) hkP hini
  have hlen : ∀ sig, parseMethodDescriptor y.desc = some sig → As.length = sig.parameters.length := fun sig h => by
    have h2 := hd.2.2
    rw [h] at h2
    exact (Option.some.inj h2).symm
  obtain ⟨vm₁, X₁, hstep₁⟩ := X.invokestatic hx ho hlk hnamed hmethM hstatic hkP hinitP ⟨hd.1, hd.2.1⟩ (g := g) hg (argsL := As) (rest := rest) (hlen _ hsigM) hstack (by rw [hb]; exact hdg)
  obtain ⟨v, ⟨U', l2, c2, s2⟩, X', ⟨g', mk', t, L, e1, e2, hq, h1, hL, h2, h3⟩, hsteps⟩ := hB m meth c ⟨T.setVm vm₁, locs, cells, slots⟩ { g with stack := rest } (.invokestatic index) mk As.toArray X₁ hg (hsize.trans hml.symm) (by rw [hb]; exact hdg) hW (X₁.named hnamed) ⟨hf.1, hf.2, hp.2 (T.setVm vm₁) hT X₁.warmed⟩
  dsimp only [Pt.U, Pt.locs, Pt.cells, Pt.slots] at X' e1 e2 h1 h2 h3 hsteps
  subst h1; subst h2; subst h3
  exact ⟨v, (T.setVm vm₁).calling g' mk' As.toArray, t, U', L, hT, X', hL, e1, e2, hq, fun target h => hstep₁ _ fun acts => by rw [doInvoke_state]; exact hsteps.trans h⟩
/-- a helper's call -/
theorem zr_SW {post : Int32 → zw_M × Nat → Prop} {hh : List (Nat × Nat × Nat × Nat)} (S : CallFix p m c cc nL s args Ts own) (hM : Met l y ws rm (zr_q Ev D cl B M H.size As) (va_Qi post (zr_o D cl B) (zw_A B)) mc ms (zw_A B)) (hG : GoodIn Ts ws) (hw : ws = Cond.codeWith y bytes maxL ret hh :: ws') (hrc : rm.cells = mc) (hrs : rm.slots = ms)
    (hini : (Cond.initialized y.cls).before args s = true) (hlk : (Cond.methodLink own index y).before args s = true) (hst : (Cond.static y).before args s = true)
    (hd : y.cls ≠ "java/lang/invoke/MethodHandle" ∧ y.cls ≠ "java/lang/invoke/VarHandle" ∧ (parseMethodDescriptor y.desc).map (fun d => d.parameters.length) = some As.length) (hR : rm.frames + 1 ≤ R.frames ∧ 8 + (maxL + 11) + rm.locals ≤ R.locals)
    (hbl : ∀ (U : State) (g : JFrame) (mk : MethodId) (a : Array Value), Ev U → Ev (U.calling g mk a)) (hmv : ∀ U : State, U.heap = H → s.WarmedH U.vm → Ev U) (hH : zw_H D cl B M H) (hS : va_S (zw_A B) H0 H locs)
    (hsize : ls.size = nL) (hstack : st0 = As.reverse ++ rest) (h8 : (rest.map fun v => v.category).sum ≤ 8) (hdg : decode cc pc = .ok (.invokestatic index, 3)) (hf : cells + mc ≤ R.cells ∧ slots + ms ≤ R.slots)
    (kk : ∀ (r : Int32) (M1 : zw_M) (sz1 : Nat) (H1 : Heap) (locs1 : List Loc), post r (M1, sz1) → zw_H D cl B M1 H1 → H1.size = sz1 → H.size ≤ H1.size → va_S (zw_A B) H0 H1 locs1 → W p l e R s m args below meth c H1 locs1 (cells + mc) (slots + ms) Q (F0 m (pc + 3) ls (.int r :: rest))) : W p l e R s m args below meth c H locs cells slots Q (F0 m pc ls st0) := by
  refine va_calli (zr_runSW (As := As) (rest := rest) S hM hG hw hrc hrs hini hlk hst hd hR ⟨zr_blindq hbl _, fun U hU hW => ⟨rfl, hmv U hU hW, by rw [hU]; exact hH, by rw [hU]⟩⟩ rfl hsize hstack (by show 2 * 0 + _ ≤ 8; omega) hdg hf) hS (fun q _ h => h) (fun q h => h) (fun r u t H1 locs1 ht hvm hw1 hB hz1 hk1 hS1 => ?_)
  subst ht
  exact kk r u.1 u.2 _ locs1 hw1 hB.1 hB.2 hz1 hS1
end ZRW
/-- room enough for the larger is room enough for the smaller -/
theorem zRoom {s : State} {pl : Platform} {r r' : Room} (hr : r.frames ≤ r'.frames ∧ r.locals ≤ r'.locals ∧ r.cells ≤ r'.cells ∧ r.slots ≤ r'.slots) (h : s.hasRoom pl r' = true) : s.hasRoom pl r = true := by
  obtain ⟨h1, h2, h3, h4⟩ := hr
  simp only [State.hasRoom, Bool.and_eq_true, decide_eq_true_eq] at h ⊢
  obtain ⟨⟨⟨⟨q1, q2, q3, q4, q5, q6⟩, q7⟩, q8⟩, q9⟩ := h
  exact ⟨⟨⟨⟨by omega, by omega, by omega, by omega, by omega, q6⟩, by omega⟩, by omega⟩, q9⟩
/-- a contract with more room, a stronger start, a weaker end -/
theorem zMet {l : Launch} {y : MethodName} {ws : List Cond} {rm rm' : Room} {Pc Pc' : Array Value → State → Prop} {Qc Qc' : Array Value → State → Outcome → State → Prop} {mc ms mc' ms' : Nat} {free free' : Addr → Prop} (h : Met l y ws rm Pc Qc mc ms free)
    (hr : rm.frames ≤ rm'.frames ∧ rm.locals ≤ rm'.locals ∧ rm.cells ≤ rm'.cells ∧ rm.slots ≤ rm'.slots) (hP : ∀ a s, Pc' a s → Pc a s) (hQ : ∀ a s o t, Pc' a s → Qc a s o t → Qc' a s o t) (hmc : mc ≤ mc') (hms : ms ≤ ms') (hf : ∀ q, free q → free' q) : Met l y ws rm' Pc' Qc' mc' ms' free' := by
  intro p e ha hcs hk s m args below hfr happ hp hK
  obtain ⟨a1, a2, a3, a4, a5, a6, a7, a8⟩ := (Spec.appliesLoose_iff hfr).mp happ
  have happ1 : (headSpec ws rm).appliesLoose y e.platform s = true := (Spec.appliesLoose_iff hfr).mpr ⟨a1, a2, a3, a4, a5, a6, zRoom hr a7, a8⟩
  obtain ⟨n, o, h1, h2, h3, h4, L, ⟨f1, f2, f3⟩, h6⟩ := h p e ha hcs hk s m args below hfr happ1 (hP _ _ hp) hK
  exact ⟨n, o, h1, h2, h3, hQ _ _ _ _ hp h4, L, ⟨f1, f2, f3.mono hmc hms⟩, fun q hq => hf _ (h6 q hq)⟩
/-- a writer's contract -/
abbrev zMi (l : Launch) (G : zG) (B : Nat) (M : zw_M) (sz : Nat) (y : MethodName) (ws : List Cond) (rm : Room) (av : List Value) (post : Int32 → zw_M × Nat → Prop) (mc ms : Nat) : Prop := Met l y ws rm (zq G B M sz av) (va_Qi post (zr_o G.1 zCl B) (zw_A B)) mc ms (zw_A B)
abbrev zMl (l : Launch) (G : zG) (B : Nat) (M : zw_M) (sz : Nat) (y : MethodName) (ws : List Cond) (rm : Room) (av : List Value) (post : Int64 → zw_M × Nat → Prop) (mc ms : Nat) : Prop := Met l y ws rm (zq G B M sz av) (va_Ql post (zr_o G.1 zCl B) (zw_A B)) mc ms (zw_A B)
theorem zMi.wide {l : Launch} {G : zG} {B : Nat} {M : zw_M} {sz : Nat} {y : MethodName} {ws : List Cond} {rm rm' : Room} {av : List Value} {post post' : Int32 → zw_M × Nat → Prop} {mc ms mc' ms' : Nat} (h : zMi l G B M sz y ws rm av post mc ms) (hr : rm.frames ≤ rm'.frames ∧ rm.locals ≤ rm'.locals ∧ rm.cells ≤ rm'.cells ∧ rm.slots ≤ rm'.slots) (hQ : ∀ r u, post r u → post' r u) (hmc : mc ≤ mc') (hms : ms ≤ ms') : zMi l G B M sz y ws rm' av post' mc' ms' :=
  zMet h hr (fun _ _ h => h) (fun _ _ _ _ _ hq => by obtain ⟨⟨r, u, e1, e2, e3⟩, hF⟩ := hq; exact ⟨⟨r, u, e1, hQ r u e2, e3⟩, hF⟩) hmc hms (fun _ h => h)
theorem zMl.wide {l : Launch} {G : zG} {B : Nat} {M : zw_M} {sz : Nat} {y : MethodName} {ws : List Cond} {rm rm' : Room} {av : List Value} {post post' : Int64 → zw_M × Nat → Prop} {mc ms mc' ms' : Nat} (h : zMl l G B M sz y ws rm av post mc ms) (hr : rm.frames ≤ rm'.frames ∧ rm.locals ≤ rm'.locals ∧ rm.cells ≤ rm'.cells ∧ rm.slots ≤ rm'.slots) (hQ : ∀ r u, post r u → post' r u) (hmc : mc ≤ mc') (hms : ms ≤ ms') : zMl l G B M sz y ws rm' av post' mc' ms' :=
  zMet h hr (fun _ _ h => h) (fun _ _ _ _ _ hq => by obtain ⟨⟨r, u, e1, e2, e3⟩, hF⟩ := hq; exact ⟨⟨r, u, e1, hQ r u e2, e3⟩, hF⟩) hmc hms (fun _ h => h)
/-- a reader's contract as a writer's that changes nothing -/
theorem zMi.reader {l : Launch} {G : zG} {B : Nat} {M : zw_M} (sz : Nat) {y : MethodName} {ws : List Cond} {rm rm' : Room} {av : List Value} {v : Int32} (h : Met l y ws rm (zp G B M av) (k2_QcV (.int v)) 0 0 (fun _ => False)) (hr : rm.frames ≤ rm'.frames ∧ rm.locals ≤ rm'.locals ∧ rm.cells ≤ rm'.cells ∧ rm.slots ≤ rm'.slots) : zMi l G B M sz y ws rm' av (fun r u => r = v ∧ u = (M, sz)) 0 0 := by
  refine zMet h hr (fun a s h => ⟨h.1, h.2.1, h.2.2.1⟩) (fun a s o t hp hq => ?_) (Nat.le_refl _) (Nat.le_refl _) (fun _ h => h.elim)
  obtain ⟨q1, q2⟩ := hq
  exact ⟨⟨v, (M, sz), q1, ⟨rfl, rfl⟩, by rw [q2]; exact hp.2.2.1, by rw [q2]; exact hp.2.2.2⟩, by rw [q2]; exact Nat.le_refl _, fun q _ _ => by rw [q2]⟩
theorem zMl.reader {l : Launch} {G : zG} {B : Nat} {M : zw_M} (sz : Nat) {y : MethodName} {ws : List Cond} {rm rm' : Room} {av : List Value} {v : Int64} (h : Met l y ws rm (zp G B M av) (k2_QcV (.long v)) 0 0 (fun _ => False)) (hr : rm.frames ≤ rm'.frames ∧ rm.locals ≤ rm'.locals ∧ rm.cells ≤ rm'.cells ∧ rm.slots ≤ rm'.slots) : zMl l G B M sz y ws rm' av (fun r u => r = v ∧ u = (M, sz)) 0 0 := by
  refine zMet h hr (fun a s h => ⟨h.1, h.2.1, h.2.2.1⟩) (fun a s o t hp hq => ?_) (Nat.le_refl _) (Nat.le_refl _) (fun _ h => h.elim)
  obtain ⟨q1, q2⟩ := hq
  exact ⟨⟨v, (M, sz), q1, ⟨rfl, rfl⟩, by rw [q2]; exact hp.2.2.1, by rw [q2]; exact hp.2.2.2⟩, by rw [q2]; exact Nat.le_refl _, fun q _ _ => by rw [q2]⟩
/-- where a number lies -/
theorem zIn (a : Int32) (n : Nat) : (a < 0 ∨ nI n ≤ a) ∨ ∃ j : Nat, j < n ∧ a = nI j := by
  by_cases h0 : a < 0
  · exact Or.inl (Or.inl h0)
  obtain ⟨j, hj, rfl⟩ := nI_of h0
  rcases Nat.lt_or_ge j n with h | h
  · exact Or.inr ⟨j, h, rfl⟩
  · exact Or.inl (Or.inr (nI_le h hj))
