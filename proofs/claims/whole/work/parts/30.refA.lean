/-! THE REFERENCE: its object, the state that it stands for -/
def zoR (th n mb z nf se lo go pa pt : Nat) : List Value := [.int (nI th), .int (nI n), .int (nI mb), .ref z, .ref (z + 1), .ref (z + 2), .ref (z + 3), .ref (z + 4), .ref (z + 5), .int (nI nf), .ref (z + 6), .ref (z + 7), .ref (z + 8), .ref (z + 9), .ref (z + 10), .ref (z + 11), .int (nI se), .int (nI lo), .int (nI go), .int (nI pa), .ref (z + 12), .int (nI pt)]
/-- what its rows of messages hold: rows, numbers, from, to, sizes, clocks, inside, part -/
def zRX : Type := (Nat → Nat) × (Nat → Int32) × (Nat → Int32) × (Nat → Int32) × (Nat → Int32) × (Nat → Int64) × (Nat → Int32) × (Nat → Int32)
def zRX.mk (rw : Nat → Nat) (nu fr to si : Nat → Int32) (cl : Nat → Int64) (ins part : Nat → Int32) : zRX := (rw, nu, fr, to, si, cl, ins, part)
def zRX.rw (Y : zRX) : Nat → Nat := Y.1
def zRX.nu (Y : zRX) : Nat → Int32 := Y.2.1
def zRX.fr (Y : zRX) : Nat → Int32 := Y.2.2.1
def zRX.to (Y : zRX) : Nat → Int32 := Y.2.2.2.1
def zRX.si (Y : zRX) : Nat → Int32 := Y.2.2.2.2.1
def zRX.cl (Y : zRX) : Nat → Int64 := Y.2.2.2.2.2.1
def zRX.ins (Y : zRX) : Nat → Int32 := Y.2.2.2.2.2.2.1
def zRX.part (Y : zRX) : Nat → Int32 := Y.2.2.2.2.2.2.2
/-- the size that stands for a message: -1 for a CLOCK -/
def zsz (ck : Option Int64) (chs : List Nat) : Int32 := match ck with
  | some _ => -1
  | none => nI chs.length
def zRm (Y : zRX) (i : Nat) (mg : zMg) : Prop := Y.nu (Y.rw i) = nI mg.num ∧ Y.fr (Y.rw i) = nI mg.snd ∧ Y.to (Y.rw i) = nI mg.rcv ∧ Y.si (Y.rw i) = zsz mg.ck mg.chs ∧ (∀ k, mg.ck = some k → Y.cl (Y.rw i) = k) ∧ ∀ k, k < mg.chs.length → Y.ins (480 * Y.rw i + k) = nI (mg.chs.getD k 0)
def zRR (G : zG) (M : zw_M) (x z n mb : Nat) (st : zSt) (th pt : Nat) (Y : zRX) : Prop :=
  (x < z) ∧
  (M x = some (.inr (2, zoR th n mb z st.fl.length st.se st.lo st.go st.pa pt))) ∧
  (M (z) = some (.inl (G.2.1 2, 8, .inl (fun a9 => nI (st.dn a9).toNat)))) ∧
  (M (z + 1) = some (.inl (G.2.1 0, 8, .inl (fun a9 => nI ((st.wt a9).length))))) ∧
  (M (z + 2) = some (.inl (G.2.1 0, 488, .inl (fun a9 => nI ((st.wt (a9 / 61)).getD (a9 % 61) 0))))) ∧
  (M (z + 3) = some (.inl (G.2.1 0, 3840, .inl (fun a9 => nI ((st.lg (a9 / 480)).getD (a9 % 480) 0))))) ∧
  (M (z + 4) = some (.inl (G.2.1 0, 8, .inl (fun a9 => nI ((st.lg a9).length))))) ∧
  (M (z + 5) = some (.inl (G.2.1 0, 120, .inl (fun a9 => nI (Y.rw a9))))) ∧
  (M (z + 6) = some (.inl (G.2.1 0, 120, .inl Y.nu))) ∧
  (M (z + 7) = some (.inl (G.2.1 0, 120, .inl Y.fr))) ∧
  (M (z + 8) = some (.inl (G.2.1 0, 120, .inl Y.to))) ∧
  (M (z + 9) = some (.inl (G.2.1 0, 120, .inl Y.si))) ∧
  (M (z + 10) = some (.inl (G.2.1 1, 120, .inr (.inl Y.cl)))) ∧
  (M (z + 11) = some (.inl (G.2.1 0, 57600, .inl Y.ins))) ∧
  (M (z + 12) = some (.inl (G.2.1 0, 480, .inl Y.part))) ∧
  (∀ i, i < 120 → Y.rw i < 120) ∧
  (∀ i j, i < 120 → j < 120 → Y.rw i = Y.rw j → i = j) ∧
  (∀ (i : Nat) (mg : zMg), st.fl[i]? = some mg → zRm Y i mg)
theorem zRR.xz {G : zG} {M : zw_M} {x z n mb : Nat} {st : zSt} {th pt : Nat} {Y : zRX} (h : zRR G M x z n mb st th pt Y) : x < z := h.1
theorem zRR.obj {G : zG} {M : zw_M} {x z n mb : Nat} {st : zSt} {th pt : Nat} {Y : zRX} (h : zRR G M x z n mb st th pt Y) : M x = some (.inr (2, zoR th n mb z st.fl.length st.se st.lo st.go st.pa pt)) := h.2.1
theorem zRR.dn {G : zG} {M : zw_M} {x z n mb : Nat} {st : zSt} {th pt : Nat} {Y : zRX} (h : zRR G M x z n mb st th pt Y) : M (z) = some (.inl (G.2.1 2, 8, .inl (fun a9 => nI (st.dn a9).toNat))) := h.2.2.1
theorem zRR.md {G : zG} {M : zw_M} {x z n mb : Nat} {st : zSt} {th pt : Nat} {Y : zRX} (h : zRR G M x z n mb st th pt Y) : M (z + 1) = some (.inl (G.2.1 0, 8, .inl (fun a9 => nI ((st.wt a9).length)))) := h.2.2.2.1
theorem zRR.wt {G : zG} {M : zw_M} {x z n mb : Nat} {st : zSt} {th pt : Nat} {Y : zRX} (h : zRR G M x z n mb st th pt Y) : M (z + 2) = some (.inl (G.2.1 0, 488, .inl (fun a9 => nI ((st.wt (a9 / 61)).getD (a9 % 61) 0)))) := h.2.2.2.2.1
theorem zRR.has {G : zG} {M : zw_M} {x z n mb : Nat} {st : zSt} {th pt : Nat} {Y : zRX} (h : zRR G M x z n mb st th pt Y) : M (z + 3) = some (.inl (G.2.1 0, 3840, .inl (fun a9 => nI ((st.lg (a9 / 480)).getD (a9 % 480) 0)))) := h.2.2.2.2.2.1
theorem zRR.mn {G : zG} {M : zw_M} {x z n mb : Nat} {st : zSt} {th pt : Nat} {Y : zRX} (h : zRR G M x z n mb st th pt Y) : M (z + 4) = some (.inl (G.2.1 0, 8, .inl (fun a9 => nI ((st.lg a9).length)))) := h.2.2.2.2.2.2.1
theorem zRR.rw {G : zG} {M : zw_M} {x z n mb : Nat} {st : zSt} {th pt : Nat} {Y : zRX} (h : zRR G M x z n mb st th pt Y) : M (z + 5) = some (.inl (G.2.1 0, 120, .inl (fun a9 => nI (Y.rw a9)))) := h.2.2.2.2.2.2.2.1
theorem zRR.nu {G : zG} {M : zw_M} {x z n mb : Nat} {st : zSt} {th pt : Nat} {Y : zRX} (h : zRR G M x z n mb st th pt Y) : M (z + 6) = some (.inl (G.2.1 0, 120, .inl Y.nu)) := h.2.2.2.2.2.2.2.2.1
theorem zRR.fr {G : zG} {M : zw_M} {x z n mb : Nat} {st : zSt} {th pt : Nat} {Y : zRX} (h : zRR G M x z n mb st th pt Y) : M (z + 7) = some (.inl (G.2.1 0, 120, .inl Y.fr)) := h.2.2.2.2.2.2.2.2.2.1
theorem zRR.to {G : zG} {M : zw_M} {x z n mb : Nat} {st : zSt} {th pt : Nat} {Y : zRX} (h : zRR G M x z n mb st th pt Y) : M (z + 8) = some (.inl (G.2.1 0, 120, .inl Y.to)) := h.2.2.2.2.2.2.2.2.2.2.1
theorem zRR.si {G : zG} {M : zw_M} {x z n mb : Nat} {st : zSt} {th pt : Nat} {Y : zRX} (h : zRR G M x z n mb st th pt Y) : M (z + 9) = some (.inl (G.2.1 0, 120, .inl Y.si)) := h.2.2.2.2.2.2.2.2.2.2.2.1
theorem zRR.cl {G : zG} {M : zw_M} {x z n mb : Nat} {st : zSt} {th pt : Nat} {Y : zRX} (h : zRR G M x z n mb st th pt Y) : M (z + 10) = some (.inl (G.2.1 1, 120, .inr (.inl Y.cl))) := h.2.2.2.2.2.2.2.2.2.2.2.2.1
theorem zRR.ins {G : zG} {M : zw_M} {x z n mb : Nat} {st : zSt} {th pt : Nat} {Y : zRX} (h : zRR G M x z n mb st th pt Y) : M (z + 11) = some (.inl (G.2.1 0, 57600, .inl Y.ins)) := h.2.2.2.2.2.2.2.2.2.2.2.2.2.1
theorem zRR.part {G : zG} {M : zw_M} {x z n mb : Nat} {st : zSt} {th pt : Nat} {Y : zRX} (h : zRR G M x z n mb st th pt Y) : M (z + 12) = some (.inl (G.2.1 0, 480, .inl Y.part)) := h.2.2.2.2.2.2.2.2.2.2.2.2.2.2.1
theorem zRR.rwb {G : zG} {M : zw_M} {x z n mb : Nat} {st : zSt} {th pt : Nat} {Y : zRX} (h : zRR G M x z n mb st th pt Y) : ∀ i, i < 120 → Y.rw i < 120 := h.2.2.2.2.2.2.2.2.2.2.2.2.2.2.2.1
theorem zRR.rwi {G : zG} {M : zw_M} {x z n mb : Nat} {st : zSt} {th pt : Nat} {Y : zRX} (h : zRR G M x z n mb st th pt Y) : ∀ i j, i < 120 → j < 120 → Y.rw i = Y.rw j → i = j := h.2.2.2.2.2.2.2.2.2.2.2.2.2.2.2.2.1
theorem zRR.msg {G : zG} {M : zw_M} {x z n mb : Nat} {st : zSt} {th pt : Nat} {Y : zRX} (h : zRR G M x z n mb st th pt Y) : ∀ (i : Nat) (mg : zMg), st.fl[i]? = some mg → zRm Y i mg := h.2.2.2.2.2.2.2.2.2.2.2.2.2.2.2.2.2
/-- what a method of the reference leaves alone -/
def zrf (x z : Nat) (M M' : zw_M) : Prop := ∀ q : Nat, q ≠ x → (q < z ∨ z + 12 < q) → M' q = M q
theorem zrf.rf {x z : Nat} {M : zw_M} : zrf x z M M := fun _ _ _ => rfl
theorem zrf.tr {x z : Nat} {M M1 M2 : zw_M} (h1 : zrf x z M M1) (h2 : zrf x z M1 M2) : zrf x z M M2 := fun q a b => (h2 q a b).trans (h1 q a b)
theorem zrf.ux {x z : Nat} {M M1 : zw_M} {e : va_E} (h : zrf x z M M1) : zrf x z M (zw_u M1 x e) := fun q a b => by rw [zw_un _ _ a]; exact h q a b
theorem zrf.uz {x z a : Nat} {M M1 : zw_M} {e : va_E} (h : zrf x z M M1) (ha : z ≤ a) (hb : a ≤ z + 12) : zrf x z M (zw_u M1 a e) := fun q a1 b => by rw [zw_un _ _ (by omega)]; exact h q a1 b
def zRO (G : zG) (x z n mb sz : Nat) (M : zw_M) (st : zSt) (th : Nat) (u : zw_M × Nat) : Prop := (∃ (pt : Nat) (Y : zRX), zRR G u.1 x z n mb st th pt Y) ∧ zrf x z M u.1 ∧ u.2 = sz
theorem zRR.to2 {G : zG} {M : zw_M} {x z n mb : Nat} {st : zSt} {th pt : Nat} {Y : zRX} {M' : zw_M} (h : zRR G M x z n mb st th pt Y) (hM : ∀ (a : Nat) (e : va_E), (a = x ∨ (z ≤ a ∧ a ≤ z + 12)) → M a = some e → M' a = some e) : zRR G M' x z n mb st th pt Y := by
  have h1 := h.xz
  exact ⟨h.xz, hM _ _ (by omega) h.obj, hM _ _ (by omega) h.dn, hM _ _ (by omega) h.md, hM _ _ (by omega) h.wt, hM _ _ (by omega) h.has, hM _ _ (by omega) h.mn, hM _ _ (by omega) h.rw, hM _ _ (by omega) h.nu, hM _ _ (by omega) h.fr, hM _ _ (by omega) h.to, hM _ _ (by omega) h.si, hM _ _ (by omega) h.cl, hM _ _ (by omega) h.ins, hM _ _ (by omega) h.part, h.rwb, h.rwi, h.msg⟩
/-- a place in rows of 480, of 61 -/
theorem zpl (r k K : Nat) (h : k < K) : (K * r + k) / K = r ∧ (K * r + k) % K = k := by
  rw [Nat.mul_add_div (by omega), Nat.div_eq_of_lt h, Nat.mul_add_mod, Nat.mod_eq_of_lt h]
  exact ⟨rfl, rfl⟩

set_option maxHeartbeats 4000000 in
set_option maxRecDepth 100000 in
theorem kR_isReplica_in (l : Launch) (G : zG) (B : Nat) (M : zw_M) (x z n mb : Nat) (st : zSt) (th pt : Nat) (Y : zRX) (hn : n ≤ 8) (hR : zRR G M x z n mb st th pt Y) (j : Nat) (hj : j < n) : Met l yR_isReplica (Cond.code yR_isReplica bR_isReplica 2 (some .boolean) :: zT) { frames := 0, cells := 0, slots := 0, locals := 0 } (zp G B M [.ref x, .int (nI j)]) (k2_QcV (.int (nI 1))) 0 0 (fun _ => False) := by
  refine Met.ofW (cc := bR_isReplica) (maxL := 2) (ret := (some .boolean)) (by decide) rfl ?_
  intro p e s m args below meth c s₁ B0 hml hv
  obtain ⟨rfl, hE, hH⟩ := hv
  have hx := B0.exec
  have hb := B0.bytes
  have hr := B0.returns
  have hlocks := B0.notSynchronized
  have hz : ∀ w ∈ zT, w.before _ s = true := fun w h => atoms_spec (ws := Cond.code yR_isReplica bR_isReplica 2 (some .boolean) :: zT) B0.pre w (List.mem_cons_of_mem _ h)
  have hown : s.vm.findClass RR = some m.cls := findClass_of_methodNamed B0.named
  have hK := hE.1
  have hl := lv_entry ([.ref x, .int (nI j)]) (n := 2) (Nat.le_of_ble_eq_true rfl)
  rw [lg_entry_eq]
  generalize (lg_sl ([.ref x, .int (nI j)]) ++ List.replicate (2 - (lg_sl ([.ref x, .int (nI j)])).length) Slot.unset).toArray = ls at hl ⊢
  have hl : lv_has ls 2 [(0, .ref x), (1, .int (nI j))] := hl
  have hS : va_S (zw_A B) s.heap s.heap [] := va_S.rf
  refine lv_iload_n hx hb dR_isReplica_0 rfl (lv_at hl 1 rfl) ?_
  refine lv_if_lt (tgt := 16) hx hb dR_isReplica_1 (by decide) (fun c => ?_) (fun c => ?_)
  · exact absurd c (nI_pos (by omega))
  · refine lv_iload_n hx hb dR_isReplica_4 rfl (lv_at hl 1 rfl) ?_
    refine lv_aload_n hx hb dR_isReplica_5 rfl (lv_at hl 0 rfl) ?_
    refine va_get (D := G.1) (ci := 2) (v := .int (nI n)) (C := RR) (T := TR) (N := 22) hx hb hz iR hown hK (hH.one hR.obj) 0 rfl rfl 1 (by decide) (hz _ zm_389) (fun _ h9 => h9) rfl dR_isReplica_6 ?_
    refine zc_ge (tgt := 16) hx hb dR_isReplica_9 (by decide) (by omega) (by omega) (fun c => ?_) (fun c => ?_)
    · exact absurd c (by omega)
    · refine lv_iconst (v := nI 1) hx hb dR_isReplica_12 (by decide) ?_
      refine lv_goto (tgt := 17) hx hb dR_isReplica_13 (by decide) ?_
      exact W.zret (v := (nI 1)) (ty := .boolean) hx hb hr rfl (fun t ht hW => ⟨rfl, ht⟩) (fun q h => by cases h) dR_isReplica_17

set_option maxHeartbeats 4000000 in
set_option maxRecDepth 100000 in
theorem kR_isReplica_out (l : Launch) (G : zG) (B : Nat) (M : zw_M) (x z n mb : Nat) (st : zSt) (th pt : Nat) (Y : zRX) (hn : n ≤ 8) (hR : zRR G M x z n mb st th pt Y) (a : Int32) (ha : a < 0 ∨ nI n ≤ a) : Met l yR_isReplica (Cond.code yR_isReplica bR_isReplica 2 (some .boolean) :: zT) { frames := 0, cells := 0, slots := 0, locals := 0 } (zp G B M [.ref x, .int a]) (k2_QcV (.int (nI 0))) 0 0 (fun _ => False) := by
  refine Met.ofW (cc := bR_isReplica) (maxL := 2) (ret := (some .boolean)) (by decide) rfl ?_
  intro p e s m args below meth c s₁ B0 hml hv
  obtain ⟨rfl, hE, hH⟩ := hv
  have hx := B0.exec
  have hb := B0.bytes
  have hr := B0.returns
  have hlocks := B0.notSynchronized
  have hz : ∀ w ∈ zT, w.before _ s = true := fun w h => atoms_spec (ws := Cond.code yR_isReplica bR_isReplica 2 (some .boolean) :: zT) B0.pre w (List.mem_cons_of_mem _ h)
  have hown : s.vm.findClass RR = some m.cls := findClass_of_methodNamed B0.named
  have hK := hE.1
  have hl := lv_entry ([.ref x, .int a]) (n := 2) (Nat.le_of_ble_eq_true rfl)
  rw [lg_entry_eq]
  generalize (lg_sl ([.ref x, .int a]) ++ List.replicate (2 - (lg_sl ([.ref x, .int a])).length) Slot.unset).toArray = ls at hl ⊢
  have hl : lv_has ls 2 [(0, .ref x), (1, .int a)] := hl
  have hS : va_S (zw_A B) s.heap s.heap [] := va_S.rf
  refine lv_iload_n hx hb dR_isReplica_0 rfl (lv_at hl 1 rfl) ?_
  refine lv_if_lt (tgt := 16) hx hb dR_isReplica_1 (by decide) (fun c => ?_) (fun c => ?_)
  · refine lv_iconst (v := nI 0) hx hb dR_isReplica_16 (by decide) ?_
    exact W.zret (v := (nI 0)) (ty := .boolean) hx hb hr rfl (fun t ht hW => ⟨rfl, ht⟩) (fun q h => by cases h) dR_isReplica_17
  · refine lv_iload_n hx hb dR_isReplica_4 rfl (lv_at hl 1 rfl) ?_
    refine lv_aload_n hx hb dR_isReplica_5 rfl (lv_at hl 0 rfl) ?_
    refine va_get (D := G.1) (ci := 2) (v := .int (nI n)) (C := RR) (T := TR) (N := 22) hx hb hz iR hown hK (hH.one hR.obj) 0 rfl rfl 1 (by decide) (hz _ zm_389) (fun _ h9 => h9) rfl dR_isReplica_6 ?_
    refine lv_icmp_ge (tgt := 16) hx hb dR_isReplica_9 (by decide) (fun c2 => ?_) (fun c2 => ?_)
    · refine lv_iconst (v := nI 0) hx hb dR_isReplica_16 (by decide) ?_
      exact W.zret (v := (nI 0)) (ty := .boolean) hx hb hr rfl (fun t ht hW => ⟨rfl, ht⟩) (fun q h => by cases h) dR_isReplica_17
    · exact absurd (ha.resolve_left c) c2

set_option maxHeartbeats 4000000 in
set_option maxRecDepth 100000 in
theorem kR_isMessage_in (l : Launch) (G : zG) (B : Nat) (M : zw_M) (x z n mb : Nat) (st : zSt) (th pt : Nat) (Y : zRX) (hn : n ≤ 8) (hR : zRR G M x z n mb st th pt Y) (h120 : st.fl.length ≤ 120) (j : Nat) (hj : j < st.fl.length) : Met l yR_isMessage (Cond.code yR_isMessage bR_isMessage 2 (some .boolean) :: zT) { frames := 0, cells := 0, slots := 0, locals := 0 } (zp G B M [.ref x, .int (nI j)]) (k2_QcV (.int (nI 1))) 0 0 (fun _ => False) := by
  refine Met.ofW (cc := bR_isMessage) (maxL := 2) (ret := (some .boolean)) (by decide) rfl ?_
  intro p e s m args below meth c s₁ B0 hml hv
  obtain ⟨rfl, hE, hH⟩ := hv
  have hx := B0.exec
  have hb := B0.bytes
  have hr := B0.returns
  have hlocks := B0.notSynchronized
  have hz : ∀ w ∈ zT, w.before _ s = true := fun w h => atoms_spec (ws := Cond.code yR_isMessage bR_isMessage 2 (some .boolean) :: zT) B0.pre w (List.mem_cons_of_mem _ h)
  have hown : s.vm.findClass RR = some m.cls := findClass_of_methodNamed B0.named
  have hK := hE.1
  have hl := lv_entry ([.ref x, .int (nI j)]) (n := 2) (Nat.le_of_ble_eq_true rfl)
  rw [lg_entry_eq]
  generalize (lg_sl ([.ref x, .int (nI j)]) ++ List.replicate (2 - (lg_sl ([.ref x, .int (nI j)])).length) Slot.unset).toArray = ls at hl ⊢
  have hl : lv_has ls 2 [(0, .ref x), (1, .int (nI j))] := hl
  have hS : va_S (zw_A B) s.heap s.heap [] := va_S.rf
  refine lv_iload_n hx hb dR_isMessage_0 rfl (lv_at hl 1 rfl) ?_
  refine lv_if_lt (tgt := 16) hx hb dR_isMessage_1 (by decide) (fun c => ?_) (fun c => ?_)
  · exact absurd c (nI_pos (by omega))
  · refine lv_iload_n hx hb dR_isMessage_4 rfl (lv_at hl 1 rfl) ?_
    refine lv_aload_n hx hb dR_isMessage_5 rfl (lv_at hl 0 rfl) ?_
    refine va_get (D := G.1) (ci := 2) (v := .int (nI st.fl.length)) (C := RR) (T := TR) (N := 22) hx hb hz iR hown hK (hH.one hR.obj) 0 rfl rfl 9 (by decide) (hz _ zm_397) (fun _ h9 => h9) rfl dR_isMessage_6 ?_
    refine zc_ge (tgt := 16) hx hb dR_isMessage_9 (by decide) (by omega) (by omega) (fun c => ?_) (fun c => ?_)
    · exact absurd c (by omega)
    · refine lv_iconst (v := nI 1) hx hb dR_isMessage_12 (by decide) ?_
      refine lv_goto (tgt := 17) hx hb dR_isMessage_13 (by decide) ?_
      exact W.zret (v := (nI 1)) (ty := .boolean) hx hb hr rfl (fun t ht hW => ⟨rfl, ht⟩) (fun q h => by cases h) dR_isMessage_17

set_option maxHeartbeats 4000000 in
set_option maxRecDepth 100000 in
theorem kR_isMessage_out (l : Launch) (G : zG) (B : Nat) (M : zw_M) (x z n mb : Nat) (st : zSt) (th pt : Nat) (Y : zRX) (hn : n ≤ 8) (hR : zRR G M x z n mb st th pt Y) (a : Int32) (ha : a < 0 ∨ nI st.fl.length ≤ a) : Met l yR_isMessage (Cond.code yR_isMessage bR_isMessage 2 (some .boolean) :: zT) { frames := 0, cells := 0, slots := 0, locals := 0 } (zp G B M [.ref x, .int a]) (k2_QcV (.int (nI 0))) 0 0 (fun _ => False) := by
  refine Met.ofW (cc := bR_isMessage) (maxL := 2) (ret := (some .boolean)) (by decide) rfl ?_
  intro p e s m args below meth c s₁ B0 hml hv
  obtain ⟨rfl, hE, hH⟩ := hv
  have hx := B0.exec
  have hb := B0.bytes
  have hr := B0.returns
  have hlocks := B0.notSynchronized
  have hz : ∀ w ∈ zT, w.before _ s = true := fun w h => atoms_spec (ws := Cond.code yR_isMessage bR_isMessage 2 (some .boolean) :: zT) B0.pre w (List.mem_cons_of_mem _ h)
  have hown : s.vm.findClass RR = some m.cls := findClass_of_methodNamed B0.named
  have hK := hE.1
  have hl := lv_entry ([.ref x, .int a]) (n := 2) (Nat.le_of_ble_eq_true rfl)
  rw [lg_entry_eq]
  generalize (lg_sl ([.ref x, .int a]) ++ List.replicate (2 - (lg_sl ([.ref x, .int a])).length) Slot.unset).toArray = ls at hl ⊢
  have hl : lv_has ls 2 [(0, .ref x), (1, .int a)] := hl
  have hS : va_S (zw_A B) s.heap s.heap [] := va_S.rf
  refine lv_iload_n hx hb dR_isMessage_0 rfl (lv_at hl 1 rfl) ?_
  refine lv_if_lt (tgt := 16) hx hb dR_isMessage_1 (by decide) (fun c => ?_) (fun c => ?_)
  · refine lv_iconst (v := nI 0) hx hb dR_isMessage_16 (by decide) ?_
    exact W.zret (v := (nI 0)) (ty := .boolean) hx hb hr rfl (fun t ht hW => ⟨rfl, ht⟩) (fun q h => by cases h) dR_isMessage_17
  · refine lv_iload_n hx hb dR_isMessage_4 rfl (lv_at hl 1 rfl) ?_
    refine lv_aload_n hx hb dR_isMessage_5 rfl (lv_at hl 0 rfl) ?_
    refine va_get (D := G.1) (ci := 2) (v := .int (nI st.fl.length)) (C := RR) (T := TR) (N := 22) hx hb hz iR hown hK (hH.one hR.obj) 0 rfl rfl 9 (by decide) (hz _ zm_397) (fun _ h9 => h9) rfl dR_isMessage_6 ?_
    refine lv_icmp_ge (tgt := 16) hx hb dR_isMessage_9 (by decide) (fun c2 => ?_) (fun c2 => ?_)
    · refine lv_iconst (v := nI 0) hx hb dR_isMessage_16 (by decide) ?_
      exact W.zret (v := (nI 0)) (ty := .boolean) hx hb hr rfl (fun t ht hW => ⟨rfl, ht⟩) (fun q h => by cases h) dR_isMessage_17
    · exact absurd (ha.resolve_left c) c2

set_option maxHeartbeats 4000000 in
set_option maxRecDepth 100000 in
theorem kR_thrown (l : Launch) (G : zG) (B : Nat) (M : zw_M) (x z n mb : Nat) (st : zSt) (th pt : Nat) (Y : zRX) (hn : n ≤ 8) (hR : zRR G M x z n mb st th pt Y) : Met l yR_thrown (Cond.code yR_thrown bR_thrown 1 (some .int) :: zT) { frames := 0, cells := 0, slots := 0, locals := 0 } (zp G B M [.ref x]) (k2_QcV (.int (nI th))) 0 0 (fun _ => False) := by
  refine Met.ofW (cc := bR_thrown) (maxL := 1) (ret := (some .int)) (by decide) rfl ?_
  intro p e s m args below meth c s₁ B0 hml hv
  obtain ⟨rfl, hE, hH⟩ := hv
  have hx := B0.exec
  have hb := B0.bytes
  have hr := B0.returns
  have hlocks := B0.notSynchronized
  have hz : ∀ w ∈ zT, w.before _ s = true := fun w h => atoms_spec (ws := Cond.code yR_thrown bR_thrown 1 (some .int) :: zT) B0.pre w (List.mem_cons_of_mem _ h)
  have hown : s.vm.findClass RR = some m.cls := findClass_of_methodNamed B0.named
  have hK := hE.1
  have hl := lv_entry ([.ref x]) (n := 1) (Nat.le_of_ble_eq_true rfl)
  rw [lg_entry_eq]
  generalize (lg_sl ([.ref x]) ++ List.replicate (1 - (lg_sl ([.ref x])).length) Slot.unset).toArray = ls at hl ⊢
  have hl : lv_has ls 1 [(0, .ref x)] := hl
  have hS : va_S (zw_A B) s.heap s.heap [] := va_S.rf
  refine lv_aload_n hx hb dR_thrown_0 rfl (lv_at hl 0 rfl) ?_
  refine va_get (D := G.1) (ci := 2) (v := .int (nI th)) (C := RR) (T := TR) (N := 22) hx hb hz iR hown hK (hH.one hR.obj) 0 rfl rfl 0 (by decide) (hz _ zm_388) (fun _ h9 => h9) rfl dR_thrown_1 ?_
  exact W.iret (v := (nI th)) hx hb hr (fun t ht hW => ⟨rfl, ht⟩) (fun q h => by cases h) dR_thrown_4

theorem zcnt_take (a : Nat) {L : List Nat} {i : Nat} (h : i < L.length) : zcnt a (L.take (i + 1)) = zcnt a (L.take i) + if L.getD i 0 % 8 = a then 1 else 0 := by
  rw [List.take_succ, List.getElem?_eq_getElem h, Option.toList_some, zcnt_app, List.getD_eq_getElem?_getD, List.getElem?_eq_getElem h]
  rfl
set_option maxHeartbeats 4000000 in
set_option maxRecDepth 100000 in
theorem kR_reached (l : Launch) (G : zG) (B : Nat) (M : zw_M) (x z n mb : Nat) (st : zSt) (th pt : Nat) (Y : zRX) (hn : n ≤ 8) (hR : zRR G M x z n mb st th pt Y) (hok : zOK n st) (j a : Nat) (hj : j < n) (ha : a < 8) : Met l yR_reached (Cond.code yR_reached bR_reached 5 (some .int) :: zT) { frames := 0, cells := 0, slots := 0, locals := 0 } (zp G B M [.ref x, .int (nI j), .int (nI a)]) (k2_QcV (.int (nI (zcnt a (st.lg j))))) 0 0 (fun _ => False) := by
  refine Met.ofW (cc := bR_reached) (maxL := 5) (ret := (some .int)) (by decide) rfl ?_
  intro p e s m args below meth c s₁ B0 hml hv
  obtain ⟨rfl, hE, hH⟩ := hv
  have hx := B0.exec
  have hb := B0.bytes
  have hr := B0.returns
  have hlocks := B0.notSynchronized
  have hz : ∀ w ∈ zT, w.before _ s = true := fun w h => atoms_spec (ws := Cond.code yR_reached bR_reached 5 (some .int) :: zT) B0.pre w (List.mem_cons_of_mem _ h)
  have hown : s.vm.findClass RR = some m.cls := findClass_of_methodNamed B0.named
  have hK := hE.1
  have hl := lv_entry ([.ref x, .int (nI j), .int (nI a)]) (n := 5) (Nat.le_of_ble_eq_true rfl)
  rw [lg_entry_eq]
  generalize (lg_sl ([.ref x, .int (nI j), .int (nI a)]) ++ List.replicate (5 - (lg_sl ([.ref x, .int (nI j), .int (nI a)])).length) Slot.unset).toArray = ls at hl ⊢
  have hl : lv_has ls 5 [(0, .ref x), (1, .int (nI j)), (2, .int (nI a))] := hl
  have hS : va_S (zw_A B) s.heap s.heap [] := va_S.rf
  have hlen := hok.len hj
  have hval := hok.1 j hj
  refine lv_iconst (v := nI 0) hx hb dR_reached_0 (by decide) ?_
  refine lv_istore_n (lv' := [(3, .int (nI 0)), (0, .ref x), (1, .int (nI j)), (2, .int (nI a))]) hx hb dR_reached_1 rfl hl (by decide) rfl (fun ls hl => ?_)
  refine lv_iconst (v := nI 0) hx hb dR_reached_2 (by decide) ?_
  refine lv_istore (lv' := [(4, .int (nI 0)), (3, .int (nI 0)), (0, .ref x), (1, .int (nI j)), (2, .int (nI a))]) hx hb dR_reached_3 hl (by decide) rfl (fun ls hl => ?_)
  refine zl_up (Wg := fun ls => W p l e _ s m _ below meth c s.heap [] 0 0 _ (F0 m 5 ls [])) (fun i ls => lv_has ls 5 [(0, .ref x), (1, .int (nI j)), (2, .int (nI a)), (3, .int (nI (zcnt a ((st.lg j).take i)))), (4, .int (nI i))]) ((st.lg j).length) ?_ (i := 0) (by omega) (lv_sub hl [2, 3, 4, 1, 0] rfl)
  intro i hi ls hl ih
  have hl : lv_has ls 5 [(0, .ref x), (1, .int (nI j)), (2, .int (nI a)), (3, .int (nI (zcnt a ((st.lg j).take i)))), (4, .int (nI i))] := hl
  refine lv_iload hx hb dR_reached_5 (lv_at hl 4 rfl) ?_
  refine lv_aload_n hx hb dR_reached_7 rfl (lv_at hl 0 rfl) ?_
  refine va_get (D := G.1) (ci := 2) (v := .ref (z + 4)) (C := RR) (T := TR) (N := 22) hx hb hz iR hown hK (hH.one hR.obj) 0 rfl rfl 7 (by decide) (hz _ zm_395) (fun _ h9 => h9) rfl dR_reached_8 ?_
  refine lv_iload_n hx hb dR_reached_11 rfl (lv_at hl 1 rfl) ?_
  refine zw_iald hx hb hK hH 0 hR.mn rfl (j) rfl (by omega) (by decide) dR_reached_12 ?_
  refine zc_ge (tgt := 50) hx hb dR_reached_13 (by decide) (by omega) (by omega) (fun b1 => ?_) (fun b1 => ?_)
  · have e1 : (st.lg j).take i = st.lg j := List.take_of_length_le (by omega)
    refine lv_iload_n hx hb dR_reached_50 rfl (lv_at hl 3 rfl) ?_
    refine zw_ti (congrArg (fun L => nI (zcnt a L)) e1) ?_
    exact W.iret (v := (nI (zcnt a (st.lg j)))) hx hb hr (fun t ht hW => ⟨rfl, ht⟩) (fun q h => by cases h) dR_reached_51
  · obtain ⟨hp1, hp2⟩ := zpl j i 480 (by omega)
    have hv1 := zval.lt hn hok (hval _ (zget_mem b1))
    have hs1 := zcnt_take a b1
    refine lv_iload_n hx hb dR_reached_16 rfl (lv_at hl 3 rfl) ?_
    refine lv_aload_n hx hb dR_reached_17 rfl (lv_at hl 0 rfl) ?_
    refine va_get (D := G.1) (ci := 2) (v := .ref (z + 3)) (C := RR) (T := TR) (N := 22) hx hb hz iR hown hK (hH.one hR.obj) 0 rfl rfl 6 (by decide) (hz _ zm_394) (fun _ h9 => h9) rfl dR_reached_18 ?_
    refine lv_sipush (v := nI 480) hx hb dR_reached_21 (by decide) ?_
    refine lv_iload_n hx hb dR_reached_24 rfl (lv_at hl 1 rfl) ?_
    refine lv_imul hx hb dR_reached_25 ?_
    refine zw_ti (pk_mul _ _) ?_
    refine lv_iload hx hb dR_reached_26 (lv_at hl 4 rfl) ?_
    refine lv_iadd hx hb dR_reached_28 ?_
    refine zw_ti (nI_add _ _) ?_
    refine zw_iald hx hb hK hH 0 hR.has rfl (480 * j + i) rfl (by omega) (by decide) dR_reached_29 ?_
    refine zw_ti (by show nI ((st.lg ((480 * j + i) / 480)).getD ((480 * j + i) % 480) 0) = _; rw [hp1, hp2]) ?_
    refine lv_bipush (v := nI 8) hx hb dR_reached_30 (by decide) ?_
    refine lv_irem hx hb dR_reached_32 (nI_ne0 (by decide) (by decide)) ?_
    refine zw_ti (pk_rem hv1 (by decide) (by decide)) ?_
    refine lv_iload_n hx hb dR_reached_33 rfl (lv_at hl 2 rfl) ?_
    refine zc_ne (tgt := 41) hx hb dR_reached_34 (by decide) (by omega) (by omega) (fun b2 => ?_) (fun b2 => ?_)
    · refine lv_iconst (v := nI 0) hx hb dR_reached_41 (by decide) ?_
      refine lv_iadd hx hb dR_reached_42 ?_
      refine zw_ti (nI_add _ _) ?_
      refine lv_istore_n (lv' := [(3, .int (nI ((zcnt a ((st.lg j).take i)) + 0))), (0, .ref x), (1, .int (nI j)), (2, .int (nI a)), (4, .int (nI i))]) hx hb dR_reached_43 rfl hl (by decide) rfl (fun ls hl => ?_)
      refine lv_iinc (v := (nI (i + 1))) (lv' := [(4, .int (nI (i + 1))), (3, .int (nI ((zcnt a ((st.lg j).take i)) + 0))), (0, .ref x), (1, .int (nI j)), (2, .int (nI a))]) hx hb dR_reached_44 hl (k := 4) rfl (nI_add _ _) (by decide) rfl (fun ls hl => ?_)
      refine lv_goto (tgt := 5) hx hb dR_reached_47 (by decide) ?_
      exact ih b1 ls (lv_sub hl [2, 3, 4, 1, 0] (by rw [hs1, if_neg b2]; rfl))
    · refine lv_iconst (v := nI 1) hx hb dR_reached_37 (by decide) ?_
      refine lv_goto (tgt := 42) hx hb dR_reached_38 (by decide) ?_
      refine lv_iadd hx hb dR_reached_42 ?_
      refine zw_ti (nI_add _ _) ?_
      refine lv_istore_n (lv' := [(3, .int (nI ((zcnt a ((st.lg j).take i)) + 1))), (0, .ref x), (1, .int (nI j)), (2, .int (nI a)), (4, .int (nI i))]) hx hb dR_reached_43 rfl hl (by decide) rfl (fun ls hl => ?_)
      refine lv_iinc (v := (nI (i + 1))) (lv' := [(4, .int (nI (i + 1))), (3, .int (nI ((zcnt a ((st.lg j).take i)) + 1))), (0, .ref x), (1, .int (nI j)), (2, .int (nI a))]) hx hb dR_reached_44 hl (k := 4) rfl (nI_add _ _) (by decide) rfl (fun ls hl => ?_)
      refine lv_goto (tgt := 5) hx hb dR_reached_47 (by decide) ?_
      exact ih b1 ls (lv_sub hl [2, 3, 4, 1, 0] (by rw [hs1, if_pos b2]; rfl))

theorem zshl8 (p c : Nat) (hp : p < 2 ^ 56) (hc : c < 256) : (lN p <<< ((nI 8).toInt64 &&& 63)) ||| (nI c).toInt64 = lN (256 * p + c) := by
  apply uN_inj
  have h0 : (((nI 8).toInt64 &&& 63).toBitVec.smod 64).toNat = 8 := by decide
  have e1 : uN (lN p <<< ((nI 8).toInt64 &&& 63)) = 256 * p := by
    show ((lN p).toBitVec <<< (((nI 8).toInt64 &&& 63).toBitVec.smod 64).toNat).toNat = _
    rw [h0, BitVec.toNat_shiftLeft, Nat.shiftLeft_eq]
    have : (lN p).toBitVec.toNat = p := uN_lN (by omega)
    rw [this]
    omega
  have e2 : uN ((nI c).toInt64) = c := by rw [nI_l (by omega)]; exact uN_lN (by omega)
  rw [uN_lN (by omega)]
  show ((lN p <<< ((nI 8).toInt64 &&& 63)).toUInt64 ||| ((nI c).toInt64).toUInt64).toNat = _
  rw [UInt64.toNat_or]
  have e1' : (lN p <<< ((nI 8).toInt64 &&& 63)).toUInt64.toNat = 256 * p := e1
  have e2' : ((nI c).toInt64).toUInt64.toNat = c := e2
  rw [e1', e2', show 256 * p = p <<< 8 by rw [Nat.shiftLeft_eq]; omega]
  exact (Nat.shiftLeft_add_eq_or_of_lt (by omega) p).symm
set_option maxHeartbeats 4000000 in
set_option maxRecDepth 100000 in
theorem kR_clockOf (l : Launch) (G : zG) (B : Nat) (M : zw_M) (x z n mb : Nat) (st : zSt) (th pt : Nat) (Y : zRX) (hn : n ≤ 8) (hR : zRR G M x z n mb st th pt Y) (hok : zOK n st) (j : Nat) (hj : j < n) : Met l yR_clockOf (Cond.code yR_clockOf bR_clockOf 5 (some .long) :: zT) { frames := 1, cells := 0, slots := 0, locals := 24 } (zp G B M [.ref x, .int (nI j)]) (k2_QcV (.long (zck (st.lg j)))) 0 0 (fun _ => False) := by
  refine Met.ofW (cc := bR_clockOf) (maxL := 5) (ret := (some .long)) (by decide) rfl ?_
  intro p e s m args below meth c s₁ B0 hml hv
  obtain ⟨rfl, hE, hH⟩ := hv
  have hx := B0.exec
  have hb := B0.bytes
  have hr := B0.returns
  have hlocks := B0.notSynchronized
  have hz : ∀ w ∈ zT, w.before _ s = true := fun w h => atoms_spec (ws := Cond.code yR_clockOf bR_clockOf 5 (some .long) :: zT) B0.pre w (List.mem_cons_of_mem _ h)
  have hown : s.vm.findClass RR = some m.cls := findClass_of_methodNamed B0.named
  have hK := hE.1
  have hl := lv_entry ([.ref x, .int (nI j)]) (n := 5) (Nat.le_of_ble_eq_true rfl)
  rw [lg_entry_eq]
  generalize (lg_sl ([.ref x, .int (nI j)]) ++ List.replicate (5 - (lg_sl ([.ref x, .int (nI j)])).length) Slot.unset).toArray = ls at hl ⊢
  have hl : lv_has ls 5 [(0, .ref x), (1, .int (nI j))] := hl
  have hS : va_S (zw_A B) s.heap s.heap [] := va_S.rf
  have h8 := hok.b8 hj
  have c0 := h8 0 (by decide)
  have c1 := h8 1 (by decide)
  have c2 := h8 2 (by decide)
  have c3 := h8 3 (by decide)
  have c4 := h8 4 (by decide)
  have c5 := h8 5 (by decide)
  have c6 := h8 6 (by decide)
  have c7 := h8 7 (by decide)
  refine lv_lconst (v := 0) hx hb dR_clockOf_0 (by decide) ?_
  refine lv_lstore_n (lv' := [(2, .long 0), (0, .ref x), (1, .int (nI j))]) hx hb dR_clockOf_1 rfl hl (by decide) rfl (fun ls hl => ?_)
  refine lv_bipush (v := nI 7) hx hb dR_clockOf_2 (by decide) ?_
  refine lv_istore (lv' := [(4, .int (nI 7)), (2, .long 0), (0, .ref x), (1, .int (nI j))]) hx hb dR_clockOf_4 hl (by decide) rfl (fun ls hl => ?_)
  have hl : lv_has ls 5 [(4, .int (nI 7)), (2, .long (lN 0)), (0, .ref x), (1, .int (nI j))] := hl
  refine lv_iload hx hb dR_clockOf_6 (lv_at hl 0 rfl) ?_
  refine zc_lt0 hx hb dR_clockOf_8 (tgt := 31) (by decide) (by decide) ?_
  refine lv_lload_n hx hb dR_clockOf_11 rfl (lv_at hl 1 rfl) ?_
  refine lv_bipush (v := nI 8) hx hb dR_clockOf_12 (by decide) ?_
  refine lv_lshl hx hb dR_clockOf_14 rfl ?_
  refine lv_aload_n hx hb dR_clockOf_15 rfl (lv_at hl 2 rfl) ?_
  refine lv_iload_n hx hb dR_clockOf_16 rfl (lv_at hl 3 rfl) ?_
  refine lv_iload hx hb dR_clockOf_17 (lv_at hl 0 rfl) ?_
  refine zr_V (As := [.int (nI j), .int (nI 7)]) (rest := [.long (lN 0 <<< ((nI 8).toInt64 &&& 63))]) (q := (RR, TR, 22)) ⟨hx, hb, hml, hown, hz⟩ (kR_reached l G B M x z n mb st th pt Y hn hR hok j 7 hj (by decide)) (zt_V zm_479 zm_481 zs_18 zm_3 zm_482) rfl rfl rfl (show _ ∧ _ ∧ _ ∧ _ = some 2 from by decide +kernel) ⟨Nat.le_of_ble_eq_true rfl, Nat.le_of_ble_eq_true rfl⟩ zE_blind (zE_at hE hS) hH hK hR.obj rfl rfl hl.1 rfl (Nat.le_of_ble_eq_true rfl) dR_clockOf_19 ⟨Nat.zero_le _, Nat.zero_le _⟩ ?_
  refine lv_i2l hx hb dR_clockOf_22 rfl ?_
  refine lv_lor hx hb dR_clockOf_23 ?_
  refine zw_tl (zshl8 _ _ (by omega) (by omega)) ?_
  refine lv_lstore_n (lv' := [(2, .long (lN (256 * 0 + zcnt 7 (st.lg j)))), (4, .int (nI 7)), (0, .ref x), (1, .int (nI j))]) hx hb dR_clockOf_24 rfl hl (by decide) rfl (fun ls hl => ?_)
  refine lv_iinc (v := (nI 6)) (lv' := [(4, .int (nI 6)), (2, .long (lN (256 * 0 + zcnt 7 (st.lg j)))), (0, .ref x), (1, .int (nI j))]) hx hb dR_clockOf_25 hl (k := 1) rfl (by decide) (by decide) rfl (fun ls hl => ?_)
  refine lv_goto (tgt := 6) hx hb dR_clockOf_28 (by decide) ?_
  refine lv_iload hx hb dR_clockOf_6 (lv_at hl 0 rfl) ?_
  refine zc_lt0 hx hb dR_clockOf_8 (tgt := 31) (by decide) (by decide) ?_
  refine lv_lload_n hx hb dR_clockOf_11 rfl (lv_at hl 1 rfl) ?_
  refine lv_bipush (v := nI 8) hx hb dR_clockOf_12 (by decide) ?_
  refine lv_lshl hx hb dR_clockOf_14 rfl ?_
  refine lv_aload_n hx hb dR_clockOf_15 rfl (lv_at hl 2 rfl) ?_
  refine lv_iload_n hx hb dR_clockOf_16 rfl (lv_at hl 3 rfl) ?_
  refine lv_iload hx hb dR_clockOf_17 (lv_at hl 0 rfl) ?_
  refine zr_V (As := [.int (nI j), .int (nI 6)]) (rest := [.long (lN (256 * 0 + zcnt 7 (st.lg j)) <<< ((nI 8).toInt64 &&& 63))]) (q := (RR, TR, 22)) ⟨hx, hb, hml, hown, hz⟩ (kR_reached l G B M x z n mb st th pt Y hn hR hok j 6 hj (by decide)) (zt_V zm_479 zm_481 zs_18 zm_3 zm_482) rfl rfl rfl (show _ ∧ _ ∧ _ ∧ _ = some 2 from by decide +kernel) ⟨Nat.le_of_ble_eq_true rfl, Nat.le_of_ble_eq_true rfl⟩ zE_blind (zE_at hE hS) hH hK hR.obj rfl rfl hl.1 rfl (Nat.le_of_ble_eq_true rfl) dR_clockOf_19 ⟨Nat.zero_le _, Nat.zero_le _⟩ ?_
  refine lv_i2l hx hb dR_clockOf_22 rfl ?_
  refine lv_lor hx hb dR_clockOf_23 ?_
  refine zw_tl (zshl8 _ _ (by omega) (by omega)) ?_
  refine lv_lstore_n (lv' := [(2, .long (lN (256 * (256 * 0 + zcnt 7 (st.lg j)) + zcnt 6 (st.lg j)))), (4, .int (nI 6)), (0, .ref x), (1, .int (nI j))]) hx hb dR_clockOf_24 rfl hl (by decide) rfl (fun ls hl => ?_)
  refine lv_iinc (v := (nI 5)) (lv' := [(4, .int (nI 5)), (2, .long (lN (256 * (256 * 0 + zcnt 7 (st.lg j)) + zcnt 6 (st.lg j)))), (0, .ref x), (1, .int (nI j))]) hx hb dR_clockOf_25 hl (k := 1) rfl (by decide) (by decide) rfl (fun ls hl => ?_)
  refine lv_goto (tgt := 6) hx hb dR_clockOf_28 (by decide) ?_
  refine lv_iload hx hb dR_clockOf_6 (lv_at hl 0 rfl) ?_
  refine zc_lt0 hx hb dR_clockOf_8 (tgt := 31) (by decide) (by decide) ?_
  refine lv_lload_n hx hb dR_clockOf_11 rfl (lv_at hl 1 rfl) ?_
  refine lv_bipush (v := nI 8) hx hb dR_clockOf_12 (by decide) ?_
  refine lv_lshl hx hb dR_clockOf_14 rfl ?_
  refine lv_aload_n hx hb dR_clockOf_15 rfl (lv_at hl 2 rfl) ?_
  refine lv_iload_n hx hb dR_clockOf_16 rfl (lv_at hl 3 rfl) ?_
  refine lv_iload hx hb dR_clockOf_17 (lv_at hl 0 rfl) ?_
  refine zr_V (As := [.int (nI j), .int (nI 5)]) (rest := [.long (lN (256 * (256 * 0 + zcnt 7 (st.lg j)) + zcnt 6 (st.lg j)) <<< ((nI 8).toInt64 &&& 63))]) (q := (RR, TR, 22)) ⟨hx, hb, hml, hown, hz⟩ (kR_reached l G B M x z n mb st th pt Y hn hR hok j 5 hj (by decide)) (zt_V zm_479 zm_481 zs_18 zm_3 zm_482) rfl rfl rfl (show _ ∧ _ ∧ _ ∧ _ = some 2 from by decide +kernel) ⟨Nat.le_of_ble_eq_true rfl, Nat.le_of_ble_eq_true rfl⟩ zE_blind (zE_at hE hS) hH hK hR.obj rfl rfl hl.1 rfl (Nat.le_of_ble_eq_true rfl) dR_clockOf_19 ⟨Nat.zero_le _, Nat.zero_le _⟩ ?_
  refine lv_i2l hx hb dR_clockOf_22 rfl ?_
  refine lv_lor hx hb dR_clockOf_23 ?_
  refine zw_tl (zshl8 _ _ (by omega) (by omega)) ?_
  refine lv_lstore_n (lv' := [(2, .long (lN (256 * (256 * (256 * 0 + zcnt 7 (st.lg j)) + zcnt 6 (st.lg j)) + zcnt 5 (st.lg j)))), (4, .int (nI 5)), (0, .ref x), (1, .int (nI j))]) hx hb dR_clockOf_24 rfl hl (by decide) rfl (fun ls hl => ?_)
  refine lv_iinc (v := (nI 4)) (lv' := [(4, .int (nI 4)), (2, .long (lN (256 * (256 * (256 * 0 + zcnt 7 (st.lg j)) + zcnt 6 (st.lg j)) + zcnt 5 (st.lg j)))), (0, .ref x), (1, .int (nI j))]) hx hb dR_clockOf_25 hl (k := 1) rfl (by decide) (by decide) rfl (fun ls hl => ?_)
  refine lv_goto (tgt := 6) hx hb dR_clockOf_28 (by decide) ?_
  refine lv_iload hx hb dR_clockOf_6 (lv_at hl 0 rfl) ?_
  refine zc_lt0 hx hb dR_clockOf_8 (tgt := 31) (by decide) (by decide) ?_
  refine lv_lload_n hx hb dR_clockOf_11 rfl (lv_at hl 1 rfl) ?_
  refine lv_bipush (v := nI 8) hx hb dR_clockOf_12 (by decide) ?_
  refine lv_lshl hx hb dR_clockOf_14 rfl ?_
  refine lv_aload_n hx hb dR_clockOf_15 rfl (lv_at hl 2 rfl) ?_
  refine lv_iload_n hx hb dR_clockOf_16 rfl (lv_at hl 3 rfl) ?_
  refine lv_iload hx hb dR_clockOf_17 (lv_at hl 0 rfl) ?_
  refine zr_V (As := [.int (nI j), .int (nI 4)]) (rest := [.long (lN (256 * (256 * (256 * 0 + zcnt 7 (st.lg j)) + zcnt 6 (st.lg j)) + zcnt 5 (st.lg j)) <<< ((nI 8).toInt64 &&& 63))]) (q := (RR, TR, 22)) ⟨hx, hb, hml, hown, hz⟩ (kR_reached l G B M x z n mb st th pt Y hn hR hok j 4 hj (by decide)) (zt_V zm_479 zm_481 zs_18 zm_3 zm_482) rfl rfl rfl (show _ ∧ _ ∧ _ ∧ _ = some 2 from by decide +kernel) ⟨Nat.le_of_ble_eq_true rfl, Nat.le_of_ble_eq_true rfl⟩ zE_blind (zE_at hE hS) hH hK hR.obj rfl rfl hl.1 rfl (Nat.le_of_ble_eq_true rfl) dR_clockOf_19 ⟨Nat.zero_le _, Nat.zero_le _⟩ ?_
  refine lv_i2l hx hb dR_clockOf_22 rfl ?_
  refine lv_lor hx hb dR_clockOf_23 ?_
  refine zw_tl (zshl8 _ _ (by omega) (by omega)) ?_
  refine lv_lstore_n (lv' := [(2, .long (lN (256 * (256 * (256 * (256 * 0 + zcnt 7 (st.lg j)) + zcnt 6 (st.lg j)) + zcnt 5 (st.lg j)) + zcnt 4 (st.lg j)))), (4, .int (nI 4)), (0, .ref x), (1, .int (nI j))]) hx hb dR_clockOf_24 rfl hl (by decide) rfl (fun ls hl => ?_)
  refine lv_iinc (v := (nI 3)) (lv' := [(4, .int (nI 3)), (2, .long (lN (256 * (256 * (256 * (256 * 0 + zcnt 7 (st.lg j)) + zcnt 6 (st.lg j)) + zcnt 5 (st.lg j)) + zcnt 4 (st.lg j)))), (0, .ref x), (1, .int (nI j))]) hx hb dR_clockOf_25 hl (k := 1) rfl (by decide) (by decide) rfl (fun ls hl => ?_)
  refine lv_goto (tgt := 6) hx hb dR_clockOf_28 (by decide) ?_
  refine lv_iload hx hb dR_clockOf_6 (lv_at hl 0 rfl) ?_
  refine zc_lt0 hx hb dR_clockOf_8 (tgt := 31) (by decide) (by decide) ?_
  refine lv_lload_n hx hb dR_clockOf_11 rfl (lv_at hl 1 rfl) ?_
  refine lv_bipush (v := nI 8) hx hb dR_clockOf_12 (by decide) ?_
  refine lv_lshl hx hb dR_clockOf_14 rfl ?_
  refine lv_aload_n hx hb dR_clockOf_15 rfl (lv_at hl 2 rfl) ?_
  refine lv_iload_n hx hb dR_clockOf_16 rfl (lv_at hl 3 rfl) ?_
  refine lv_iload hx hb dR_clockOf_17 (lv_at hl 0 rfl) ?_
  refine zr_V (As := [.int (nI j), .int (nI 3)]) (rest := [.long (lN (256 * (256 * (256 * (256 * 0 + zcnt 7 (st.lg j)) + zcnt 6 (st.lg j)) + zcnt 5 (st.lg j)) + zcnt 4 (st.lg j)) <<< ((nI 8).toInt64 &&& 63))]) (q := (RR, TR, 22)) ⟨hx, hb, hml, hown, hz⟩ (kR_reached l G B M x z n mb st th pt Y hn hR hok j 3 hj (by decide)) (zt_V zm_479 zm_481 zs_18 zm_3 zm_482) rfl rfl rfl (show _ ∧ _ ∧ _ ∧ _ = some 2 from by decide +kernel) ⟨Nat.le_of_ble_eq_true rfl, Nat.le_of_ble_eq_true rfl⟩ zE_blind (zE_at hE hS) hH hK hR.obj rfl rfl hl.1 rfl (Nat.le_of_ble_eq_true rfl) dR_clockOf_19 ⟨Nat.zero_le _, Nat.zero_le _⟩ ?_
  refine lv_i2l hx hb dR_clockOf_22 rfl ?_
  refine lv_lor hx hb dR_clockOf_23 ?_
  refine zw_tl (zshl8 _ _ (by omega) (by omega)) ?_
  refine lv_lstore_n (lv' := [(2, .long (lN (256 * (256 * (256 * (256 * (256 * 0 + zcnt 7 (st.lg j)) + zcnt 6 (st.lg j)) + zcnt 5 (st.lg j)) + zcnt 4 (st.lg j)) + zcnt 3 (st.lg j)))), (4, .int (nI 3)), (0, .ref x), (1, .int (nI j))]) hx hb dR_clockOf_24 rfl hl (by decide) rfl (fun ls hl => ?_)
  refine lv_iinc (v := (nI 2)) (lv' := [(4, .int (nI 2)), (2, .long (lN (256 * (256 * (256 * (256 * (256 * 0 + zcnt 7 (st.lg j)) + zcnt 6 (st.lg j)) + zcnt 5 (st.lg j)) + zcnt 4 (st.lg j)) + zcnt 3 (st.lg j)))), (0, .ref x), (1, .int (nI j))]) hx hb dR_clockOf_25 hl (k := 1) rfl (by decide) (by decide) rfl (fun ls hl => ?_)
  refine lv_goto (tgt := 6) hx hb dR_clockOf_28 (by decide) ?_
  refine lv_iload hx hb dR_clockOf_6 (lv_at hl 0 rfl) ?_
  refine zc_lt0 hx hb dR_clockOf_8 (tgt := 31) (by decide) (by decide) ?_
  refine lv_lload_n hx hb dR_clockOf_11 rfl (lv_at hl 1 rfl) ?_
  refine lv_bipush (v := nI 8) hx hb dR_clockOf_12 (by decide) ?_
  refine lv_lshl hx hb dR_clockOf_14 rfl ?_
  refine lv_aload_n hx hb dR_clockOf_15 rfl (lv_at hl 2 rfl) ?_
  refine lv_iload_n hx hb dR_clockOf_16 rfl (lv_at hl 3 rfl) ?_
  refine lv_iload hx hb dR_clockOf_17 (lv_at hl 0 rfl) ?_
  refine zr_V (As := [.int (nI j), .int (nI 2)]) (rest := [.long (lN (256 * (256 * (256 * (256 * (256 * 0 + zcnt 7 (st.lg j)) + zcnt 6 (st.lg j)) + zcnt 5 (st.lg j)) + zcnt 4 (st.lg j)) + zcnt 3 (st.lg j)) <<< ((nI 8).toInt64 &&& 63))]) (q := (RR, TR, 22)) ⟨hx, hb, hml, hown, hz⟩ (kR_reached l G B M x z n mb st th pt Y hn hR hok j 2 hj (by decide)) (zt_V zm_479 zm_481 zs_18 zm_3 zm_482) rfl rfl rfl (show _ ∧ _ ∧ _ ∧ _ = some 2 from by decide +kernel) ⟨Nat.le_of_ble_eq_true rfl, Nat.le_of_ble_eq_true rfl⟩ zE_blind (zE_at hE hS) hH hK hR.obj rfl rfl hl.1 rfl (Nat.le_of_ble_eq_true rfl) dR_clockOf_19 ⟨Nat.zero_le _, Nat.zero_le _⟩ ?_
  refine lv_i2l hx hb dR_clockOf_22 rfl ?_
  refine lv_lor hx hb dR_clockOf_23 ?_
  refine zw_tl (zshl8 _ _ (by omega) (by omega)) ?_
  refine lv_lstore_n (lv' := [(2, .long (lN (256 * (256 * (256 * (256 * (256 * (256 * 0 + zcnt 7 (st.lg j)) + zcnt 6 (st.lg j)) + zcnt 5 (st.lg j)) + zcnt 4 (st.lg j)) + zcnt 3 (st.lg j)) + zcnt 2 (st.lg j)))), (4, .int (nI 2)), (0, .ref x), (1, .int (nI j))]) hx hb dR_clockOf_24 rfl hl (by decide) rfl (fun ls hl => ?_)
  refine lv_iinc (v := (nI 1)) (lv' := [(4, .int (nI 1)), (2, .long (lN (256 * (256 * (256 * (256 * (256 * (256 * 0 + zcnt 7 (st.lg j)) + zcnt 6 (st.lg j)) + zcnt 5 (st.lg j)) + zcnt 4 (st.lg j)) + zcnt 3 (st.lg j)) + zcnt 2 (st.lg j)))), (0, .ref x), (1, .int (nI j))]) hx hb dR_clockOf_25 hl (k := 1) rfl (by decide) (by decide) rfl (fun ls hl => ?_)
  refine lv_goto (tgt := 6) hx hb dR_clockOf_28 (by decide) ?_
  refine lv_iload hx hb dR_clockOf_6 (lv_at hl 0 rfl) ?_
  refine zc_lt0 hx hb dR_clockOf_8 (tgt := 31) (by decide) (by decide) ?_
  refine lv_lload_n hx hb dR_clockOf_11 rfl (lv_at hl 1 rfl) ?_
  refine lv_bipush (v := nI 8) hx hb dR_clockOf_12 (by decide) ?_
  refine lv_lshl hx hb dR_clockOf_14 rfl ?_
  refine lv_aload_n hx hb dR_clockOf_15 rfl (lv_at hl 2 rfl) ?_
  refine lv_iload_n hx hb dR_clockOf_16 rfl (lv_at hl 3 rfl) ?_
  refine lv_iload hx hb dR_clockOf_17 (lv_at hl 0 rfl) ?_
  refine zr_V (As := [.int (nI j), .int (nI 1)]) (rest := [.long (lN (256 * (256 * (256 * (256 * (256 * (256 * 0 + zcnt 7 (st.lg j)) + zcnt 6 (st.lg j)) + zcnt 5 (st.lg j)) + zcnt 4 (st.lg j)) + zcnt 3 (st.lg j)) + zcnt 2 (st.lg j)) <<< ((nI 8).toInt64 &&& 63))]) (q := (RR, TR, 22)) ⟨hx, hb, hml, hown, hz⟩ (kR_reached l G B M x z n mb st th pt Y hn hR hok j 1 hj (by decide)) (zt_V zm_479 zm_481 zs_18 zm_3 zm_482) rfl rfl rfl (show _ ∧ _ ∧ _ ∧ _ = some 2 from by decide +kernel) ⟨Nat.le_of_ble_eq_true rfl, Nat.le_of_ble_eq_true rfl⟩ zE_blind (zE_at hE hS) hH hK hR.obj rfl rfl hl.1 rfl (Nat.le_of_ble_eq_true rfl) dR_clockOf_19 ⟨Nat.zero_le _, Nat.zero_le _⟩ ?_
  refine lv_i2l hx hb dR_clockOf_22 rfl ?_
  refine lv_lor hx hb dR_clockOf_23 ?_
  refine zw_tl (zshl8 _ _ (by omega) (by omega)) ?_
  refine lv_lstore_n (lv' := [(2, .long (lN (256 * (256 * (256 * (256 * (256 * (256 * (256 * 0 + zcnt 7 (st.lg j)) + zcnt 6 (st.lg j)) + zcnt 5 (st.lg j)) + zcnt 4 (st.lg j)) + zcnt 3 (st.lg j)) + zcnt 2 (st.lg j)) + zcnt 1 (st.lg j)))), (4, .int (nI 1)), (0, .ref x), (1, .int (nI j))]) hx hb dR_clockOf_24 rfl hl (by decide) rfl (fun ls hl => ?_)
  refine lv_iinc (v := (nI 0)) (lv' := [(4, .int (nI 0)), (2, .long (lN (256 * (256 * (256 * (256 * (256 * (256 * (256 * 0 + zcnt 7 (st.lg j)) + zcnt 6 (st.lg j)) + zcnt 5 (st.lg j)) + zcnt 4 (st.lg j)) + zcnt 3 (st.lg j)) + zcnt 2 (st.lg j)) + zcnt 1 (st.lg j)))), (0, .ref x), (1, .int (nI j))]) hx hb dR_clockOf_25 hl (k := 1) rfl (by decide) (by decide) rfl (fun ls hl => ?_)
  refine lv_goto (tgt := 6) hx hb dR_clockOf_28 (by decide) ?_
  refine lv_iload hx hb dR_clockOf_6 (lv_at hl 0 rfl) ?_
  refine zc_lt0 hx hb dR_clockOf_8 (tgt := 31) (by decide) (by decide) ?_
  refine lv_lload_n hx hb dR_clockOf_11 rfl (lv_at hl 1 rfl) ?_
  refine lv_bipush (v := nI 8) hx hb dR_clockOf_12 (by decide) ?_
  refine lv_lshl hx hb dR_clockOf_14 rfl ?_
  refine lv_aload_n hx hb dR_clockOf_15 rfl (lv_at hl 2 rfl) ?_
  refine lv_iload_n hx hb dR_clockOf_16 rfl (lv_at hl 3 rfl) ?_
  refine lv_iload hx hb dR_clockOf_17 (lv_at hl 0 rfl) ?_
  refine zr_V (As := [.int (nI j), .int (nI 0)]) (rest := [.long (lN (256 * (256 * (256 * (256 * (256 * (256 * (256 * 0 + zcnt 7 (st.lg j)) + zcnt 6 (st.lg j)) + zcnt 5 (st.lg j)) + zcnt 4 (st.lg j)) + zcnt 3 (st.lg j)) + zcnt 2 (st.lg j)) + zcnt 1 (st.lg j)) <<< ((nI 8).toInt64 &&& 63))]) (q := (RR, TR, 22)) ⟨hx, hb, hml, hown, hz⟩ (kR_reached l G B M x z n mb st th pt Y hn hR hok j 0 hj (by decide)) (zt_V zm_479 zm_481 zs_18 zm_3 zm_482) rfl rfl rfl (show _ ∧ _ ∧ _ ∧ _ = some 2 from by decide +kernel) ⟨Nat.le_of_ble_eq_true rfl, Nat.le_of_ble_eq_true rfl⟩ zE_blind (zE_at hE hS) hH hK hR.obj rfl rfl hl.1 rfl (Nat.le_of_ble_eq_true rfl) dR_clockOf_19 ⟨Nat.zero_le _, Nat.zero_le _⟩ ?_
  refine lv_i2l hx hb dR_clockOf_22 rfl ?_
  refine lv_lor hx hb dR_clockOf_23 ?_
  refine zw_tl (zshl8 _ _ (by omega) (by omega)) ?_
  refine lv_lstore_n (lv' := [(2, .long (lN (256 * (256 * (256 * (256 * (256 * (256 * (256 * (256 * 0 + zcnt 7 (st.lg j)) + zcnt 6 (st.lg j)) + zcnt 5 (st.lg j)) + zcnt 4 (st.lg j)) + zcnt 3 (st.lg j)) + zcnt 2 (st.lg j)) + zcnt 1 (st.lg j)) + zcnt 0 (st.lg j)))), (4, .int (nI 0)), (0, .ref x), (1, .int (nI j))]) hx hb dR_clockOf_24 rfl hl (by decide) rfl (fun ls hl => ?_)
  refine lv_iinc (v := (-1)) (lv' := [(4, .int (-1)), (2, .long (lN (256 * (256 * (256 * (256 * (256 * (256 * (256 * (256 * 0 + zcnt 7 (st.lg j)) + zcnt 6 (st.lg j)) + zcnt 5 (st.lg j)) + zcnt 4 (st.lg j)) + zcnt 3 (st.lg j)) + zcnt 2 (st.lg j)) + zcnt 1 (st.lg j)) + zcnt 0 (st.lg j)))), (0, .ref x), (1, .int (nI j))]) hx hb dR_clockOf_25 hl (k := 1) rfl (by decide) (by decide) rfl (fun ls hl => ?_)
  refine lv_goto (tgt := 6) hx hb dR_clockOf_28 (by decide) ?_
  refine lv_iload hx hb dR_clockOf_6 (lv_at hl 0 rfl) ?_
  refine lv_if_lt (tgt := 31) hx hb dR_clockOf_8 (by decide) (fun _ => ?_) (fun h => absurd (by decide) h)
  refine lv_lload_n hx hb dR_clockOf_31 rfl (lv_at hl 1 rfl) ?_
  refine zw_tl (show _ = zck (st.lg j) from congrArg lN (by unfold zp8; dsimp only; omega)) ?_
  exact W.lret (v := (zck (st.lg j))) hx hb hr (fun t ht hW => ⟨rfl, ht⟩) (fun q h => by cases h) dR_clockOf_32

set_option maxHeartbeats 4000000 in
set_option maxRecDepth 100000 in
theorem kR_weightOf (l : Launch) (G : zG) (B : Nat) (M : zw_M) (x z n mb : Nat) (st : zSt) (th pt : Nat) (Y : zRX) (hn : n ≤ 8) (hR : zRR G M x z n mb st th pt Y) (hok : zOK n st) (k0 : Nat) (hv : zval n st.wt k0) : Met l yR_weightOf (Cond.code yR_weightOf bR_weightOf 2 (some .int) :: zT) { frames := 0, cells := 0, slots := 0, locals := 0 } (zp G B M [.ref x, .int (nI k0)]) (k2_QcV (.int (nI (zwo st.wt k0)))) 0 0 (fun _ => False) := by
  refine Met.ofW (cc := bR_weightOf) (maxL := 2) (ret := (some .int)) (by decide) rfl ?_
  intro p e s m args below meth c s₁ B0 hml hv
  obtain ⟨rfl, hE, hH⟩ := hv
  have hx := B0.exec
  have hb := B0.bytes
  have hr := B0.returns
  have hlocks := B0.notSynchronized
  have hz : ∀ w ∈ zT, w.before _ s = true := fun w h => atoms_spec (ws := Cond.code yR_weightOf bR_weightOf 2 (some .int) :: zT) B0.pre w (List.mem_cons_of_mem _ h)
  have hown : s.vm.findClass RR = some m.cls := findClass_of_methodNamed B0.named
  have hK := hE.1
  have hl := lv_entry ([.ref x, .int (nI k0)]) (n := 2) (Nat.le_of_ble_eq_true rfl)
  rw [lg_entry_eq]
  generalize (lg_sl ([.ref x, .int (nI k0)]) ++ List.replicate (2 - (lg_sl ([.ref x, .int (nI k0)])).length) Slot.unset).toArray = ls at hl ⊢
  have hl : lv_has ls 2 [(0, .ref x), (1, .int (nI k0))] := hl
  have hS : va_S (zw_A B) s.heap s.heap [] := va_S.rf
  have hk31 := zval.lt hn hok hv
  have h60 := (hok.2.2.1 _ hv.1).2
  have hv1 := hv.2.1
  have hv2 := hv.2.2
  have hv0 := hv.1
  obtain ⟨hp1, hp2⟩ := zpl (k0 % 8) (k0 / 8 - 1) 61 (by omega)
  refine lv_aload_n hx hb dR_weightOf_0 rfl (lv_at hl 0 rfl) ?_
  refine va_get (D := G.1) (ci := 2) (v := .ref (z + 2)) (C := RR) (T := TR) (N := 22) hx hb hz iR hown hK (hH.one hR.obj) 0 rfl rfl 5 (by decide) (hz _ zm_393) (fun _ h9 => h9) rfl dR_weightOf_1 ?_
  refine lv_bipush (v := nI 61) hx hb dR_weightOf_4 (by decide) ?_
  refine lv_iload_n hx hb dR_weightOf_6 rfl (lv_at hl 1 rfl) ?_
  refine lv_bipush (v := nI 8) hx hb dR_weightOf_7 (by decide) ?_
  refine lv_irem hx hb dR_weightOf_9 (nI_ne0 (by decide) (by decide)) ?_
  refine zw_ti (pk_rem hk31 (by decide) (by decide)) ?_
  refine lv_imul hx hb dR_weightOf_10 ?_
  refine zw_ti (pk_mul _ _) ?_
  refine lv_iload_n hx hb dR_weightOf_11 rfl (lv_at hl 1 rfl) ?_
  refine lv_bipush (v := nI 8) hx hb dR_weightOf_12 (by decide) ?_
  refine lv_idiv hx hb dR_weightOf_14 (nI_ne0 (by decide) (by decide)) ?_
  refine zw_ti (pk_div hk31 (by decide) (by decide)) ?_
  refine lv_iadd hx hb dR_weightOf_15 ?_
  refine zw_ti (nI_add _ _) ?_
  refine lv_iconst (v := nI 1) hx hb dR_weightOf_16 (by decide) ?_
  refine lv_isub hx hb dR_weightOf_17 ?_
  refine zw_ti (pk_sub (by omega)) ?_
  refine zw_ti (by rw [show 61 * (k0 % 8) + k0 / 8 - 1 = 61 * (k0 % 8) + (k0 / 8 - 1) by omega]) ?_
  refine zw_iald hx hb hK hH 0 hR.wt rfl (61 * (k0 % 8) + (k0 / 8 - 1)) rfl (by omega) (by decide) dR_weightOf_18 ?_
  refine zw_ti (by show nI ((st.wt ((61 * (k0 % 8) + (k0 / 8 - 1)) / 61)).getD ((61 * (k0 % 8) + (k0 / 8 - 1)) % 61) 0) = nI (zwo st.wt k0); rw [hp1, hp2]; rfl) ?_
  exact W.iret (v := (nI (zwo st.wt k0))) hx hb hr (fun t ht hW => ⟨rfl, ht⟩) (fun q h => by cases h) dR_weightOf_19

set_option maxHeartbeats 4000000 in
set_option maxRecDepth 100000 in
theorem kR_total (l : Launch) (G : zG) (B : Nat) (M : zw_M) (x z n mb : Nat) (st : zSt) (th pt : Nat) (Y : zRX) (hn : n ≤ 8) (hR : zRR G M x z n mb st th pt Y) : Met l yR_total (Cond.code yR_total bR_total 3 (some .int) :: zT) { frames := 0, cells := 0, slots := 0, locals := 0 } (zp G B M [.ref x]) (k2_QcV (.int (nI (zsum (fun a => (st.wt a).length) n)))) 0 0 (fun _ => False) := by
  refine Met.ofW (cc := bR_total) (maxL := 3) (ret := (some .int)) (by decide) rfl ?_
  intro p e s m args below meth c s₁ B0 hml hv
  obtain ⟨rfl, hE, hH⟩ := hv
  have hx := B0.exec
  have hb := B0.bytes
  have hr := B0.returns
  have hlocks := B0.notSynchronized
  have hz : ∀ w ∈ zT, w.before _ s = true := fun w h => atoms_spec (ws := Cond.code yR_total bR_total 3 (some .int) :: zT) B0.pre w (List.mem_cons_of_mem _ h)
  have hown : s.vm.findClass RR = some m.cls := findClass_of_methodNamed B0.named
  have hK := hE.1
  have hl := lv_entry ([.ref x]) (n := 3) (Nat.le_of_ble_eq_true rfl)
  rw [lg_entry_eq]
  generalize (lg_sl ([.ref x]) ++ List.replicate (3 - (lg_sl ([.ref x])).length) Slot.unset).toArray = ls at hl ⊢
  have hl : lv_has ls 3 [(0, .ref x)] := hl
  have hS : va_S (zw_A B) s.heap s.heap [] := va_S.rf
  refine lv_iconst (v := nI 0) hx hb dR_total_0 (by decide) ?_
  refine lv_istore_n (lv' := [(1, .int (nI 0)), (0, .ref x)]) hx hb dR_total_1 rfl hl (by decide) rfl (fun ls hl => ?_)
  refine lv_iconst (v := nI 0) hx hb dR_total_2 (by decide) ?_
  refine lv_istore_n (lv' := [(2, .int (nI 0)), (1, .int (nI 0)), (0, .ref x)]) hx hb dR_total_3 rfl hl (by decide) rfl (fun ls hl => ?_)
  refine zl_up (Wg := fun ls => W p l e _ s m _ below meth c s.heap [] 0 0 _ (F0 m 4 ls [])) (fun i ls => lv_has ls 3 [(0, .ref x), (1, .int (nI (zsum (fun a => (st.wt a).length) i))), (2, .int (nI i))]) n ?_ (i := 0) (by omega) (lv_sub hl [2, 1, 0] rfl)
  intro i hi ls hl ih
  have hl : lv_has ls 3 [(0, .ref x), (1, .int (nI (zsum (fun a => (st.wt a).length) i))), (2, .int (nI i))] := hl
  refine lv_iload_n hx hb dR_total_4 rfl (lv_at hl 2 rfl) ?_
  refine lv_aload_n hx hb dR_total_5 rfl (lv_at hl 0 rfl) ?_
  refine va_get (D := G.1) (ci := 2) (v := .int (nI n)) (C := RR) (T := TR) (N := 22) hx hb hz iR hown hK (hH.one hR.obj) 0 rfl rfl 1 (by decide) (hz _ zm_389) (fun _ h9 => h9) rfl dR_total_6 ?_
  refine zc_ge (tgt := 27) hx hb dR_total_9 (by decide) (by omega) (by omega) (fun c => ?_) (fun c => ?_)
  · have e1 : n = i := by omega
    rw [e1]
    refine lv_iload_n hx hb dR_total_27 rfl (lv_at hl 1 rfl) ?_
    exact W.iret (v := (nI (zsum (fun a => (st.wt a).length) i))) hx hb hr (fun t ht hW => ⟨rfl, ht⟩) (fun q h => by cases h) dR_total_28
  · refine lv_iload_n hx hb dR_total_12 rfl (lv_at hl 1 rfl) ?_
    refine lv_aload_n hx hb dR_total_13 rfl (lv_at hl 0 rfl) ?_
    refine va_get (D := G.1) (ci := 2) (v := .ref (z + 1)) (C := RR) (T := TR) (N := 22) hx hb hz iR hown hK (hH.one hR.obj) 0 rfl rfl 4 (by decide) (hz _ zm_392) (fun _ h9 => h9) rfl dR_total_14 ?_
    refine lv_iload_n hx hb dR_total_17 rfl (lv_at hl 2 rfl) ?_
    refine zw_iald hx hb hK hH 0 hR.md rfl (i) rfl (by omega) (by decide) dR_total_18 ?_
    refine lv_iadd hx hb dR_total_19 ?_
    refine zw_ti (nI_add _ _) ?_
    refine lv_istore_n (lv' := [(1, .int (nI ((zsum (fun a => (st.wt a).length) i) + ((st.wt i).length)))), (0, .ref x), (2, .int (nI i))]) hx hb dR_total_20 rfl hl (by decide) rfl (fun ls hl => ?_)
    refine lv_iinc (v := (nI (i + 1))) (lv' := [(2, .int (nI (i + 1))), (1, .int (nI ((zsum (fun a => (st.wt a).length) i) + ((st.wt i).length)))), (0, .ref x)]) hx hb dR_total_21 hl (k := 2) rfl (nI_add _ _) (by decide) rfl (fun ls hl => ?_)
    refine lv_goto (tgt := 4) hx hb dR_total_24 (by decide) ?_
    exact ih c ls (lv_sub hl [2, 1, 0] rfl)

