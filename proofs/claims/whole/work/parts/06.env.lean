/-! THE ENVIRONMENT of every call. The rows vx_L .. vx_isRefq are a starting text of TURN's (claim/NAMES.whole.lean.txt) -/
/-- where a static field lies, its class's statics cell in H -/
def vx_L (C n d : String) (A : Nat → Prop) (U : State) (H : Heap) : Prop := ∃ (c : ClassId) (k : Class) (i : Nat) (f : Field) (a : Nat) (cell : Cell), U.vm.findClass C = some c ∧ U.fieldFound? C n d = some (c, k, i, f) ∧ f.isStatic = true ∧ k.statics = some a ∧ H[a]? = some cell ∧ cell.vm.isStatics = true ∧ cell.cls = c ∧ f.slot < cell.slots.size ∧ k.staticTypes[f.slot]? = some f.type ∧ ¬ A a
theorem vx_L.moved {C n d : String} {A : Nat → Prop} {u U : State} {H : Heap} (hvm : u.vm.Alike U.vm) (h : vx_L C n d A u H) : vx_L C n d A U H := by
  obtain ⟨c, k, i, f, a, cell, h1, h2, h3, h4, h5, h6, h7, h8, h9, h10⟩ := h
  obtain ⟨k', hi', he⟩ := State.fieldFound?_setVm hvm h2
  exact ⟨c, k', i, f, a, cell, by rw [hvm.findClass]; exact h1, hi', h3, by rw [he]; exact h4, h5, h6, h7, h8, by rw [he]; exact h9, h10⟩
theorem vx_L.kept {C n d : String} {A : Nat → Prop} {U : State} {H H1 : Heap} (h : vx_L C n d A U H) (hq : ∀ a : Nat, a < H.size → ¬ A a → H1[a]? = H[a]?) : vx_L C n d A U H1 := by
  obtain ⟨c, k, i, f, a, cell, h1, h2, h3, h4, h5, h6, h7, h8, h9, h10⟩ := h
  exact ⟨c, k, i, f, a, cell, h1, h2, h3, h4, by rw [hq a (Array.getElem?_eq_some_iff.mp h5).1 h10]; exact h5, h6, h7, h8, h9, h10⟩
theorem vx_L.narrow {C n d : String} {A B : Nat → Prop} {U : State} {H : Heap} (h : vx_L C n d A U H) (hAB : ∀ q, B q → A q) : vx_L C n d B U H := by
  obtain ⟨c, k, i, f, a, cell, h1, h2, h3, h4, h5, h6, h7, h8, h9, h10⟩ := h
  exact ⟨c, k, i, f, a, cell, h1, h2, h3, h4, h5, h6, h7, h8, h9, fun z => h10 (hAB _ z)⟩
theorem vx_L.word {C n d : String} {A : Nat → Prop} {s : State} {args : Array Value} (h : vx_L C n d A s s.heap) : (Cond.laysStatic C n d).before args s = true := by
  obtain ⟨c, k, i, f, a, cell, h1, h2, h3, h4, h5, h6, h7, h8, h9, -⟩ := h
  show (Cond.laysStatic C n d).holds args s none s [] = true
  exact Cond.laysStatic_of h1 h2 h3 h4 h5 h6 h7 h8 h9
/-- .. and what it holds: null or some reference -/
def vx_Zq (C n d : String) (A : Nat → Prop) (U : State) (H : Heap) : Prop := va_Zq C n d A U H ∧ vx_L C n d A U H
theorem vx_Zq.moved {C n d : String} {A : Nat → Prop} {u U : State} {H : Heap} (hvm : u.vm.Alike U.vm) (h : vx_Zq C n d A u H) : vx_Zq C n d A U H := ⟨va_Zq.moved hvm h.1, vx_L.moved hvm h.2⟩
theorem vx_Zq.kept {C n d : String} {A : Nat → Prop} {U : State} {H H1 : Heap} (h : vx_Zq C n d A U H) (hq : ∀ a : Nat, a < H.size → ¬ A a → H1[a]? = H[a]?) : vx_Zq C n d A U H1 := ⟨va_Zq.kept h.1 hq, vx_L.kept h.2 hq⟩
theorem vx_Zq.narrow {C n d : String} {A B : Nat → Prop} {U : State} {H : Heap} (h : vx_Zq C n d A U H) (hAB : ∀ q, B q → A q) : vx_Zq C n d B U H := ⟨va_Zq.narrow h.1 hAB, vx_L.narrow h.2 hAB⟩
theorem vx_Zqof {args : Array Value} {s : State} {C n d : String} {A : Nat → Prop} (hl : (Cond.laysStatic C n d).before args s = true) (hini : (Cond.initialized C).before args s = true) (h : (Cond.isRef (.static C n d)).before args s = true) (hA : ∀ a : Nat, a < s.heap.size → ¬ A a) : vx_Zq C n d A s s.heap := by
  refine ⟨va_Zqof hl hini h hA, ?_⟩
  obtain ⟨c, k, i, f, a, cell, h1, h2, h3, h4, h5, h6, h7, h8, h9⟩ := Cond.laysStatic_spec hl
  exact ⟨c, k, i, f, a, cell, h1, h2, h3, h4, h5, h6, h7, h8, h9, hA a (Array.getElem?_eq_some_iff.mp h5).1⟩
theorem vx_isRef {C n d : String} {v : Value} {A : Nat → Prop} {s : State} {args : Array Value} (h : va_Z C n d v A s s.heap) (hv : v.isRef = true) : (Cond.isRef (.static C n d)).before args s = true := by
  obtain ⟨cf, kf, fi, f, a, cell, h1, h2, h3, h4, h5, h6, h7, -⟩ := h
  have he : (Term.static C n d).eval args s none [] s = some v := by
    simp [Term.eval, State.fieldNamed?, h1, h2, h4, h5, h6, h7]
  simp only [Cond.before, Cond.holds, Cond.value, he]
  cases v <;> simp_all [Value.isRef]
theorem vx_isRefq {C n d : String} {A : Nat → Prop} {s : State} {args : Array Value} (h : va_Zq C n d A s s.heap) : (Cond.isRef (.static C n d)).before args s = true := by
  rcases h with h | ⟨t, h⟩
  · exact vx_isRef h rfl
  · exact vx_isRef h rfl
/-- what the run fixes: the classes' numbers and slots, the array classes' numbers (0 int, 1 long, 2 boolean, 3 messages, 4 rows of ints), the address of NO_CHANGES -/
abbrev zG : Type := va_G × (Nat → ClassId) × Nat
abbrev zt (G : zG) : List (ClassId × FieldType) := [(G.2.1 0, .int), (G.2.1 1, .long), (G.2.1 2, .boolean), (G.2.1 3, .object "ChangeSync$Message"), (G.2.1 4, .array .int)]
/-- words that move by 'keepsFace' -/
def zF : List Cond := lw_tbl.filter (fun w => w.keepsFace && w.onTables)
/-- the class's texts -/
def zStr : List (Nat × String) := [(60, "no such replica"), (67, "a weight is 1 .. 400"), (76, "the replica is down, or has made 60 changes"), (83, "the replica is down"), (93, "no such message in flight"), (145, "no such message in flight, or no such w")]
def zE (G : zG) (B : Nat) (U : State) : Prop :=
  va_K G.1 zCl (zt G) U ∧ B ≤ U.heap.size ∧ va_Z "ChangeSync" "NO_CHANGES" "[I" (.ref G.2.2) (zw_A B) U U.heap ∧ va_T .int G.2.2 0 (fun _ => .int 0) (zw_A B) U U.heap ∧
  (∀ w ∈ zF, w.before #[] U = true) ∧ (Cond.arrayOver (.array .int)).before #[] U = true ∧ va_AO "ChangeSync$Message" U ∧
  vx_Zq "java/lang/Throwable" "UNASSIGNED_STACK" "[Ljava/lang/StackTraceElement;" (zw_A B) U U.heap ∧ vx_Zq "java/lang/Throwable" "SUPPRESSED_SENTINEL" "Ljava/util/List;" (zw_A B) U U.heap ∧
  (∀ k ∈ zStr, ∃ q, vk_R "ChangeSync" k.1 k.2 q U)
theorem zO_moved {u U : State} (hvm : u.vm.Alike U.vm) (h : (Cond.arrayOver (.array .int)).before #[] u = true) : (Cond.arrayOver (.array .int)).before #[] U = true := by
  obtain ⟨comp, c, k, h1, h2, h3, h4, h5⟩ := arrayOverA_spec h
  obtain ⟨k', hk', he⟩ := hvm.2.2 _ _ h3
  have hi : (U.vm.classes.findIdx? fun (x : Class) => match x.kind with | .array component _ => component == comp | _ => false) = some c := by
    rw [hvm.findIdx?_eq _ (fun _ => rfl)]; exact h2
  have e1 : U.vm.findClass (FieldType.array .int).toString = some comp := by rw [hvm.findClass]; exact h1
  have e2 : U.vm.findClass ("[" ++ (FieldType.array .int).toString) = some c := by rw [hvm.findClass]; exact h5
  have hkind : k'.kind = .array comp (.array .int) := by rw [he]; exact h4
  unfold Cond.before Cond.holds
  simp only [Cond.value]
  rw [e1, Option.bind_some]
  refine (congrArg (fun o : Option Nat => (o.bind (fun c => (U.vm.classes[c]?).map fun (k : Class) => match k.kind with | .array _ ty => decide (ty = FieldType.array .int) && decide (U.vm.findClass ("[" ++ (FieldType.array .int).toString) = some c) | _ => false) == some true)) hi).trans ?_
  simp [hk', hkind, e2]
theorem zE_moved {G : zG} {B : Nat} {s U : State} {locs : List Loc} (h : zE G B s) (hW : s.WarmedH U.vm) (hS : va_S (zw_A B) s.heap U.heap locs) : zE G B U := by
  obtain ⟨h1, h2, h3, h4, h5, h6, h7, h8, h9, h10⟩ := h
  have hal := hW.alike
  refine ⟨va_K.moved hal h1, Nat.le_trans h2 hS.1, va_Z.moved hal (h3.kept hS.2.1), va_T.moved hal (h4.kept hS.2.1), fun w hw => ?_, zO_moved hal h6, va_AO.moved hal h7, vx_Zq.moved hal (h8.kept hS.2.1), vx_Zq.moved hal (h9.kept hS.2.1), fun k hk => by obtain ⟨q, hq⟩ := h10 k hk; exact ⟨q, vk_R.warm hW hq⟩⟩
  have hw2 := (List.mem_filter.mp hw).2
  rw [Bool.and_eq_true] at hw2
  exact va_tabs hw2.2 (rfl : (s.setVm U.vm).vm = U.vm) (Cond.before_shiftedFace (args := #[]) (State.Shifted.of_warmed hW) w hw2.1 (h5 w hw))
theorem zE_blind {G : zG} {B : Nat} (U : State) (g : JFrame) (mk : MethodId) (a : Array Value) (h : zE G B U) : zE G B (U.calling g mk a) := zE_moved (U := U.calling g mk a) (locs := []) h (State.WarmedH.refl U) va_S.rf
theorem zE_at {G : zG} {B : Nat} {s : State} {H : Heap} {locs : List Loc} (h : zE G B s) (hS : va_S (zw_A B) s.heap H locs) (U : State) (hU : U.heap = H) (hW : s.WarmedH U.vm) : zE G B U := zE_moved h hW (by rw [hU]; exact hS)
theorem zt_goodT {ws : List Cond} (h : ∀ w ∈ ws, w ∈ zT) : GoodIn zT ws := fun w hw => ⟨h w hw, (zt_good (h w hw)).2⟩
theorem zt_V {own C : String} {index : Nat} {y : MethodName} {bytes : ByteArray} {maxL : Nat} {ret : Option FieldType} (h1 : Cond.methodLink own index y ∈ zT) (h2 : Cond.instanceMethod y ∈ zT) (h3 : Cond.selects C y y ∈ zT) (h4 : Cond.initialized C ∈ zT) (h5 : Cond.code y bytes maxL ret ∈ zT) : GoodIn zT (wsV own index C y (Cond.code y bytes maxL ret :: zT)) := by
  refine zt_goodT (fun w hw => ?_)
  unfold wsV at hw
  rcases List.mem_append.mp hw with hw | hw
  · simp only [List.mem_cons, List.not_mem_nil, or_false] at hw
    rcases hw with rfl | rfl | rfl | rfl <;> assumption
  · rcases List.mem_cons.mp hw with rfl | hw
    · exact h5
    · exact hw
theorem zt_S {own : String} {index : Nat} {y : MethodName} {bytes : ByteArray} {maxL : Nat} {ret : Option FieldType} (h1 : Cond.methodLink own index y ∈ zT) (h2 : Cond.static y ∈ zT) (h4 : Cond.initialized own ∈ zT) (h5 : Cond.code y bytes maxL ret ∈ zT) : GoodIn zT (wsS own index y (Cond.code y bytes maxL ret :: zT)) := by
  refine zt_goodT (fun w hw => ?_)
  unfold wsS at hw
  rcases List.mem_append.mp hw with hw | hw
  · simp only [List.mem_cons, List.not_mem_nil, or_false] at hw
    rcases hw with rfl | rfl | rfl <;> assumption
  · rcases List.mem_cons.mp hw with rfl | hw
    · exact h5
    · exact hw
theorem zt_I {y : MethodName} {bytes : ByteArray} {maxL : Nat} {ret : Option FieldType} (h5 : Cond.code y bytes maxL ret ∈ zT) : GoodIn zT (Cond.code y bytes maxL ret :: zT) := zt_goodT (fun w hw => (List.mem_cons.mp hw).elim (fun h => by rw [h]; exact h5) id)
/-- a reader's and a writer's start -/
abbrev zp (G : zG) (B : Nat) (M : zw_M) (av : List Value) : Array Value → State → Prop := zr_p (zE G B) G.1 zCl B M av
abbrev zq (G : zG) (B : Nat) (M : zw_M) (sz : Nat) (av : List Value) : Array Value → State → Prop := zr_q (zE G B) G.1 zCl B M sz av
