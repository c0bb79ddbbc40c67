/-! THE STATE that both objects stand for -/
/-- a message: number, sender, receiver, bytes, CLOCK, changes -/
def zMg : Type := Nat × Nat × Nat × Nat × Option Int64 × List Nat
def zMg.mk (num snd rcv byt : Nat) (ck : Option Int64) (chs : List Nat) : zMg := (num, snd, rcv, byt, ck, chs)
def zMg.num (q : zMg) : Nat := q.1
def zMg.snd (q : zMg) : Nat := q.2.1
def zMg.rcv (q : zMg) : Nat := q.2.2.1
def zMg.byt (q : zMg) : Nat := q.2.2.2.1
def zMg.ck (q : zMg) : Option Int64 := q.2.2.2.2.1
def zMg.chs (q : zMg) : List Nat := q.2.2.2.2.2
/-- down, logs, weights, flight; sent, lost, gone, passed over -/
def zSt : Type := (Nat → Bool) × (Nat → List Nat) × (Nat → List Nat) × List zMg × Nat × Nat × Nat × Nat
def zSt.mk (dn : Nat → Bool) (lg wt : Nat → List Nat) (fl : List zMg) (se lo go pa : Nat) : zSt := (dn, lg, wt, fl, se, lo, go, pa)
def zSt.dn (q : zSt) : Nat → Bool := q.1
def zSt.lg (q : zSt) : Nat → List Nat := q.2.1
def zSt.wt (q : zSt) : Nat → List Nat := q.2.2.1
def zSt.fl (q : zSt) : List zMg := q.2.2.2.1
def zSt.se (q : zSt) : Nat := q.2.2.2.2.1
def zSt.lo (q : zSt) : Nat := q.2.2.2.2.2.1
def zSt.go (q : zSt) : Nat := q.2.2.2.2.2.2.1
def zSt.pa (q : zSt) : Nat := q.2.2.2.2.2.2.2
/-- a message is sent -/
def zsend (st : zSt) (snd rcv byt : Nat) (ck : Option Int64) (chs : List Nat) : zSt :=
  if st.fl.length < 120 then zSt.mk st.dn st.lg st.wt (st.fl ++ [zMg.mk st.se snd rcv byt ck chs]) (st.se + 1) st.lo st.go st.pa else zSt.mk st.dn st.lg st.wt st.fl (st.se + 1) (st.lo + 1) st.go st.pa
/-- a change comes to a log -/
def zlog (st : zSt) (r c : Nat) : zSt := zSt.mk st.dn (fun i => if i = r then st.lg r ++ [c] else st.lg i) st.wt st.fl st.se st.lo st.go st.pa
abbrev zfits (st : zSt) (r c : Nat) : Prop := c / 8 = zcnt (c % 8) (st.lg r) + 1
def zdrop (st : zSt) (i : Nat) : zSt := zSt.mk st.dn st.lg st.wt (st.fl.eraseIdx i) st.se st.lo st.go st.pa
/-- tick, the first k of the others -/
def ztk (n r : Nat) (ck : Int64) (st : zSt) : Nat → zSt
  | 0 => st
  | k + 1 => if k = r then ztk n r ck st k else zsend (ztk n r ck st k) r k (3 + n) (some ck) []
def zpass (st : zSt) : zSt := zSt.mk st.dn st.lg st.wt st.fl st.se st.lo st.go (st.pa + 1)
def zgone (st : zSt) : zSt := zSt.mk st.dn st.lg st.wt st.fl st.se st.lo (st.go + 1) st.pa
def zlost (st : zSt) : zSt := zSt.mk st.dn st.lg st.wt st.fl st.se (st.lo + 1) st.go st.pa
/-- a part's change -/
def zta (r : Nat) (q : zSt × Nat) (c : Nat) : zSt × Nat := if zfits q.1 r c then (zlog q.1 r c, q.2 + 1) else (zpass q.1, q.2)
/-- what a change weighs -/
def zwo (wt : Nat → List Nat) (c : Nat) : Nat := (wt (c % 8)).getD (c / 8 - 1) 0
/-- an answer on its way: state, parts, the part that is being filled, its bytes -/
def zAn : Type := zSt × Nat × List Nat × Nat
def zAn.mk (st : zSt) (parts : Nat) (part : List Nat) (byt : Nat) : zAn := (st, parts, part, byt)
def zAn.st (q : zAn) : zSt := q.1
def zAn.parts (q : zAn) : Nat := q.2.1
def zAn.part (q : zAn) : List Nat := q.2.2.1
def zAn.byt (q : zAn) : Nat := q.2.2.2
/-- an answer's step -/
def zan (rp to : Nat) (ck : Int64) (mb : Nat) (q : zAn) (c : Nat) : zAn :=
  if c / 8 ≤ zb ck (c % 8) then q
  else if 0 < q.part.length ∧ mb < q.byt + zwo q.st.wt c then zAn.mk (zsend q.st rp to q.byt none q.part) (q.parts + 1) [c] (3 + zwo q.st.wt c)
  else zAn.mk q.st q.parts (q.part ++ [c]) (q.byt + zwo q.st.wt c)
/-- .. and its end -/
def zae (rp to : Nat) (q : zAn) : zSt × Nat := if 0 < q.part.length then (zsend q.st rp to q.byt none q.part, q.parts + 1) else (q.st, q.parts)
def zanswer (st : zSt) (rp to : Nat) (ck : Int64) (mb : Nat) : zSt × Nat := zae rp to ((st.lg rp).foldl (zan rp to ck mb) (zAn.mk st 0 [] 3))
def zmake (st : zSt) (r w : Nat) : zSt := zlog (zSt.mk st.dn st.lg (fun i => if i = r then st.wt r ++ [w] else st.wt i) st.fl st.se st.lo st.go st.pa) r (r + 8 * ((st.wt r).length + 1))
def zdeliver (st : zSt) (i : Nat) (mg : zMg) (mb : Nat) : zSt × Nat :=
  if st.dn mg.rcv = true then (zgone (zdrop st i), 0) else
    match mg.ck with
    | some k => zanswer (zdrop st i) mg.rcv mg.snd k mb
    | none => mg.chs.foldl (zta mg.rcv) (zdrop st i, 0)
def zup (st : zSt) (r : Nat) (b : Bool) : zSt := zSt.mk (fun i => if i = r then b else st.dn i) st.lg st.wt st.fl st.se st.lo st.go st.pa
theorem zsend_lg (st : zSt) (a b c : Nat) (k : Option Int64) (L : List Nat) : (zsend st a b c k L).lg = st.lg := by unfold zsend; split <;> rfl
theorem zsend_wt (st : zSt) (a b c : Nat) (k : Option Int64) (L : List Nat) : (zsend st a b c k L).wt = st.wt := by unfold zsend; split <;> rfl
theorem zsend_dn (st : zSt) (a b c : Nat) (k : Option Int64) (L : List Nat) : (zsend st a b c k L).dn = st.dn := by unfold zsend; split <;> rfl
theorem ztk_lg (n r : Nat) (ck : Int64) (st : zSt) : ∀ k, (ztk n r ck st k).lg = st.lg
  | 0 => rfl
  | k + 1 => by
    unfold ztk
    split
    · exact ztk_lg n r ck st k
    · rw [zsend_lg]; exact ztk_lg n r ck st k
theorem zan_wt (rp to : Nat) (ck : Int64) (mb : Nat) (q : zAn) (c : Nat) : (zan rp to ck mb q c).st.wt = q.st.wt := by
  unfold zan; split
  · rfl
  · split
    · exact zsend_wt _ _ _ _ _ _
    · rfl
theorem zan_lg (rp to : Nat) (ck : Int64) (mb : Nat) (q : zAn) (c : Nat) : (zan rp to ck mb q c).st.lg = q.st.lg := by
  unfold zan; split
  · rfl
  · split
    · exact zsend_lg _ _ _ _ _ _
    · rfl
theorem zans_wt (rp to : Nat) (ck : Int64) (mb : Nat) : ∀ (L : List Nat) (q : zAn), (L.foldl (zan rp to ck mb) q).st.wt = q.st.wt
  | [], _ => rfl
  | c :: L, q => by rw [List.foldl_cons, zans_wt rp to ck mb L, zan_wt]
theorem zans_lg (rp to : Nat) (ck : Int64) (mb : Nat) : ∀ (L : List Nat) (q : zAn), (L.foldl (zan rp to ck mb) q).st.lg = q.st.lg
  | [], _ => rfl
  | c :: L, q => by rw [List.foldl_cons, zans_lg rp to ck mb L, zan_lg]
/-- one step more of a list's walk -/
theorem zfold {α : Type} (f : α → Nat → α) (q : α) (L : List Nat) {k : Nat} (h : k < L.length) : (L.take (k + 1)).foldl f q = f ((L.take k).foldl f q) (L.getD k 0) := by
  rw [List.take_succ, List.getElem?_eq_getElem h, Option.toList_some, List.foldl_append, List.getD_eq_getElem?_getD, List.getElem?_eq_getElem h]
  rfl
/-! THE CLASS stands for a state: qs the messages' addresses, g what lies in 'gathered'; messages lie above L -/
def zMr (G : zG) (M : zw_M) (L q : Nat) (mg : zMg) : Prop :=
  L < q ∧ match mg.ck with
    | some k => M q = some (.inr (0, zoM (nI mg.num) (nI mg.snd) (nI mg.rcv) (nI mg.byt) k G.2.2))
    | none => ∃ (ch : Nat) (f : Nat → Int32), L < ch ∧ M q = some (.inr (0, zoM (nI mg.num) (nI mg.snd) (nI mg.rcv) (nI mg.byt) (-1) ch)) ∧ M ch = some (.inl (G.2.1 0, mg.chs.length, .inl f)) ∧ ∀ k, k < mg.chs.length → f k = nI (mg.chs.getD k 0)
def zCR (G : zG) (M : zw_M) (x z L n mb : Nat) (st : zSt) (qs : List Nat) (g : Nat → Int32) : Prop :=
  (x < z) ∧
  (z + 6 + 2 * n ≤ L) ∧
  (M x = some (.inr (1, zoC n mb z st.fl.length st.se st.lo st.go st.pa))) ∧
  (M z = some (.inl (G.2.1 2, n, .inl (fun i => nI (st.dn i).toNat)))) ∧
  (M (z + 1) = some (.inl (G.2.1 1, n, .inr (.inl (fun i => zck (st.lg i)))))) ∧
  (M (z + 2) = some (.inl (G.2.1 4, n, .inr (.inr (.inr (.inr (fun i => some (z + 3 + i)))))))) ∧
  (∀ i, i < n → M (z + 3 + i) = some (.inl (G.2.1 0, n * 60, .inl (fun k => nI ((st.lg i).getD k 0))))) ∧
  (M (z + 3 + n) = some (.inl (G.2.1 0, n, .inl (fun i => nI ((st.lg i).length))))) ∧
  (M (z + 4 + n) = some (.inl (G.2.1 4, n, .inr (.inr (.inr (.inr (fun i => some (z + 5 + n + i)))))))) ∧
  (∀ i, i < n → M (z + 5 + n + i) = some (.inl (G.2.1 0, 60, .inl (fun k => nI ((st.wt i).getD k 0))))) ∧
  (M (z + 5 + 2 * n) = some (.inl (G.2.1 3, 120, .inr (.inr (.inr (.inr (fun i => qs[i]?))))))) ∧
  (M (z + 6 + 2 * n) = some (.inl (G.2.1 0, n * 60, .inl g))) ∧
  (qs.length = st.fl.length) ∧
  (∀ (i q : Nat) (mg : zMg), qs[i]? = some q → st.fl[i]? = some mg → zMr G M L q mg)
theorem zCR.xz {G : zG} {M : zw_M} {x z L n mb : Nat} {st : zSt} {qs : List Nat} {g : Nat → Int32} (h : zCR G M x z L n mb st qs g) : x < z := h.1
theorem zCR.zL {G : zG} {M : zw_M} {x z L n mb : Nat} {st : zSt} {qs : List Nat} {g : Nat → Int32} (h : zCR G M x z L n mb st qs g) : z + 6 + 2 * n ≤ L := h.2.1
theorem zCR.obj {G : zG} {M : zw_M} {x z L n mb : Nat} {st : zSt} {qs : List Nat} {g : Nat → Int32} (h : zCR G M x z L n mb st qs g) : M x = some (.inr (1, zoC n mb z st.fl.length st.se st.lo st.go st.pa)) := h.2.2.1
theorem zCR.dn {G : zG} {M : zw_M} {x z L n mb : Nat} {st : zSt} {qs : List Nat} {g : Nat → Int32} (h : zCR G M x z L n mb st qs g) : M z = some (.inl (G.2.1 2, n, .inl (fun i => nI (st.dn i).toNat))) := h.2.2.2.1
theorem zCR.ck {G : zG} {M : zw_M} {x z L n mb : Nat} {st : zSt} {qs : List Nat} {g : Nat → Int32} (h : zCR G M x z L n mb st qs g) : M (z + 1) = some (.inl (G.2.1 1, n, .inr (.inl (fun i => zck (st.lg i))))) := h.2.2.2.2.1
theorem zCR.lgs {G : zG} {M : zw_M} {x z L n mb : Nat} {st : zSt} {qs : List Nat} {g : Nat → Int32} (h : zCR G M x z L n mb st qs g) : M (z + 2) = some (.inl (G.2.1 4, n, .inr (.inr (.inr (.inr (fun i => some (z + 3 + i))))))) := h.2.2.2.2.2.1
theorem zCR.lg {G : zG} {M : zw_M} {x z L n mb : Nat} {st : zSt} {qs : List Nat} {g : Nat → Int32} (h : zCR G M x z L n mb st qs g) : ∀ i, i < n → M (z + 3 + i) = some (.inl (G.2.1 0, n * 60, .inl (fun k => nI ((st.lg i).getD k 0)))) := h.2.2.2.2.2.2.1
theorem zCR.lz {G : zG} {M : zw_M} {x z L n mb : Nat} {st : zSt} {qs : List Nat} {g : Nat → Int32} (h : zCR G M x z L n mb st qs g) : M (z + 3 + n) = some (.inl (G.2.1 0, n, .inl (fun i => nI ((st.lg i).length)))) := h.2.2.2.2.2.2.2.1
theorem zCR.wts {G : zG} {M : zw_M} {x z L n mb : Nat} {st : zSt} {qs : List Nat} {g : Nat → Int32} (h : zCR G M x z L n mb st qs g) : M (z + 4 + n) = some (.inl (G.2.1 4, n, .inr (.inr (.inr (.inr (fun i => some (z + 5 + n + i))))))) := h.2.2.2.2.2.2.2.2.1
theorem zCR.wt {G : zG} {M : zw_M} {x z L n mb : Nat} {st : zSt} {qs : List Nat} {g : Nat → Int32} (h : zCR G M x z L n mb st qs g) : ∀ i, i < n → M (z + 5 + n + i) = some (.inl (G.2.1 0, 60, .inl (fun k => nI ((st.wt i).getD k 0)))) := h.2.2.2.2.2.2.2.2.2.1
theorem zCR.fl {G : zG} {M : zw_M} {x z L n mb : Nat} {st : zSt} {qs : List Nat} {g : Nat → Int32} (h : zCR G M x z L n mb st qs g) : M (z + 5 + 2 * n) = some (.inl (G.2.1 3, 120, .inr (.inr (.inr (.inr (fun i => qs[i]?)))))) := h.2.2.2.2.2.2.2.2.2.2.1
theorem zCR.ga {G : zG} {M : zw_M} {x z L n mb : Nat} {st : zSt} {qs : List Nat} {g : Nat → Int32} (h : zCR G M x z L n mb st qs g) : M (z + 6 + 2 * n) = some (.inl (G.2.1 0, n * 60, .inl g)) := h.2.2.2.2.2.2.2.2.2.2.2.1
theorem zCR.len {G : zG} {M : zw_M} {x z L n mb : Nat} {st : zSt} {qs : List Nat} {g : Nat → Int32} (h : zCR G M x z L n mb st qs g) : qs.length = st.fl.length := h.2.2.2.2.2.2.2.2.2.2.2.2.1
theorem zCR.msg {G : zG} {M : zw_M} {x z L n mb : Nat} {st : zSt} {qs : List Nat} {g : Nat → Int32} (h : zCR G M x z L n mb st qs g) : ∀ (i q : Nat) (mg : zMg), qs[i]? = some q → st.fl[i]? = some mg → zMr G M L q mg := h.2.2.2.2.2.2.2.2.2.2.2.2.2
theorem zMr.to {G : zG} {M M' : zw_M} {L q : Nat} {mg : zMg} (h : zMr G M L q mg) (hM : ∀ (a : Nat) (e : va_E), L < a → M a = some e → M' a = some e) : zMr G M' L q mg := by
  unfold zMr at h ⊢
  obtain ⟨h1, h2⟩ := h
  refine ⟨h1, ?_⟩
  cases hk : mg.ck with
  | some k => rw [hk] at h2; exact hM _ _ h1 h2
  | none =>
    rw [hk] at h2
    obtain ⟨ch, f, a1, a2, a3, a4⟩ := h2
    exact ⟨ch, f, a1, hM _ _ h1 a2, hM _ _ a1 a3, a4⟩
/-- what a method of the class leaves alone: B's other cells -/
def zfr (x z n sz : Nat) (M M' : zw_M) : Prop := ∀ q : Nat, q ≠ x → (q < z ∨ z + 6 + 2 * n < q) → q < sz → M' q = M q
theorem zfr.rf {x z n sz : Nat} {M : zw_M} : zfr x z n sz M M := fun _ _ _ _ => rfl
theorem zfr.tr {x z n sz sz1 : Nat} {M M1 M2 : zw_M} (h1 : zfr x z n sz M M1) (h2 : zfr x z n sz1 M1 M2) (h : sz ≤ sz1) : zfr x z n sz M M2 := fun q a b c => (h2 q a b (by omega)).trans (h1 q a b c)
theorem zfr.ux {x z n sz : Nat} {M M1 : zw_M} {e : va_E} (h : zfr x z n sz M M1) : zfr x z n sz M (zw_u M1 x e) := fun q a b c => by rw [zw_un _ _ a]; exact h q a b c
theorem zfr.uz {x z n sz a : Nat} {M M1 : zw_M} {e : va_E} (h : zfr x z n sz M M1) (ha : z ≤ a) (hb : a ≤ z + 6 + 2 * n) : zfr x z n sz M (zw_u M1 a e) := fun q a1 b c => by rw [zw_un _ _ (by omega)]; exact h q a1 b c
theorem zfr.un {x z n sz a : Nat} {M M1 : zw_M} {e : va_E} (h : zfr x z n sz M M1) (ha : sz ≤ a) : zfr x z n sz M (zw_u M1 a e) := fun q a1 b c => by rw [zw_un _ _ (by omega)]; exact h q a1 b c
