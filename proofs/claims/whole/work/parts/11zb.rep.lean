/-! how the class's cells follow a step of the state -/
section ZCR
variable {G : zG} {M M' : zw_M} {x z L n mb : Nat} {st st' : zSt} {qs : List Nat} {g : Nat → Int32}
/-- the counters alone -/
theorem zCR.cnt (h : zCR G M x z L n mb st qs g) (e1 : st'.dn = st.dn) (e2 : st'.lg = st.lg) (e3 : st'.wt = st.wt) (e4 : st'.fl = st.fl) (ho : M' x = some (.inr (1, zoC n mb z st'.fl.length st'.se st'.lo st'.go st'.pa))) (hk : ∀ (a : Nat) (e : va_E), a ≠ x → M a = some e → M' a = some e) : zCR G M' x z L n mb st' qs g := by
  have h1 := h.xz
  have h2 := h.zL
  refine ⟨h.xz, h.zL, ho, ?_, ?_, hk _ _ (by omega) h.lgs, ?_, ?_, hk _ _ (by omega) h.wts, ?_, hk _ _ (by omega) h.fl, hk _ _ (by omega) h.ga, ?_, ?_⟩
  · rw [e1]; exact hk _ _ (by omega) h.dn
  · rw [e2]; exact hk _ _ (by omega) h.ck
  · rw [e2]; exact fun i hi => hk _ _ (by omega) (h.lg i hi)
  · rw [e2]; exact hk _ _ (by omega) h.lz
  · rw [e3]; exact fun i hi => hk _ _ (by omega) (h.wt i hi)
  · rw [e4]; exact h.len
  · rw [e4]; exact fun i q mg a b => (h.msg i q mg a b).to (fun a e ha => hk a e (by omega))
theorem zqs_app (qs : List Nat) (q : Nat) : va_up (fun i => qs[i]?) qs.length (some q) = fun i => (qs ++ [q])[i]? := by
  funext i
  unfold va_up
  by_cases h : i = qs.length
  · subst h; simp
  · rw [if_neg h]
    show qs[i]? = _
    by_cases h2 : i < qs.length
    · rw [List.getElem?_append_left h2]
    · rw [List.getElem?_eq_none (by omega), List.getElem?_eq_none (by rw [List.length_append]; show qs.length + 1 ≤ i; omega)]
/-- a message comes into the flight -/
theorem zCR.put (h : zCR G M x z L n mb st qs g) {mg : zMg} {q : Nat} (e1 : st'.dn = st.dn) (e2 : st'.lg = st.lg) (e3 : st'.wt = st.wt) (e4 : st'.fl = st.fl ++ [mg]) (ho : M' x = some (.inr (1, zoC n mb z st'.fl.length st'.se st'.lo st'.go st'.pa)))
    (hf : M' (z + 5 + 2 * n) = some (.inl (G.2.1 3, 120, .inr (.inr (.inr (.inr (va_up (fun i => qs[i]?) st.fl.length (some q)))))))) (hq : zMr G M' L q mg) (hk : ∀ (a : Nat) (e : va_E), a ≠ x → a ≠ z + 5 + 2 * n → M a = some e → M' a = some e) : zCR G M' x z L n mb st' (qs ++ [q]) g := by
  have h1 := h.xz
  have h2 := h.zL
  refine ⟨h.xz, h.zL, ho, ?_, ?_, hk _ _ (by omega) (by omega) h.lgs, ?_, ?_, hk _ _ (by omega) (by omega) h.wts, ?_, ?_, hk _ _ (by omega) (by omega) h.ga, ?_, ?_⟩
  · rw [e1]; exact hk _ _ (by omega) (by omega) h.dn
  · rw [e2]; exact hk _ _ (by omega) (by omega) h.ck
  · rw [e2]; exact fun i hi => hk _ _ (by omega) (by omega) (h.lg i hi)
  · rw [e2]; exact hk _ _ (by omega) (by omega) h.lz
  · rw [e3]; exact fun i hi => hk _ _ (by omega) (by omega) (h.wt i hi)
  · rw [← h.len, zqs_app] at hf; exact hf
  · rw [e4, List.length_append, List.length_append, h.len]; rfl
  · rw [e4]
    intro i q2 mg2 a b
    by_cases hi : i < qs.length
    · rw [List.getElem?_append_left hi] at a
      rw [List.getElem?_append_left (by rw [← h.len]; exact hi)] at b
      exact (h.msg i q2 mg2 a b).to (fun a e ha => hk a e (by omega) (by omega))
    · by_cases he : i = qs.length
      · subst he
        rw [List.getElem?_append_right (Nat.le_refl _), Nat.sub_self] at a
        rw [h.len, List.getElem?_append_right (Nat.le_refl _), Nat.sub_self] at b
        cases a
        cases b
        exact hq
      · rw [List.getElem?_eq_none (by simp; omega)] at a
        cases a
/-- a message leaves the flight -/
theorem zCR.rem (h : zCR G M x z L n mb st qs g) {j : Nat} (e1 : st'.dn = st.dn) (e2 : st'.lg = st.lg) (e3 : st'.wt = st.wt) (e4 : st'.fl = st.fl.eraseIdx j) (ho : M' x = some (.inr (1, zoC n mb z st'.fl.length st'.se st'.lo st'.go st'.pa)))
    (hf : M' (z + 5 + 2 * n) = some (.inl (G.2.1 3, 120, .inr (.inr (.inr (.inr (fun i => (qs.eraseIdx j)[i]?))))))) (hk : ∀ (a : Nat) (e : va_E), a ≠ x → a ≠ z + 5 + 2 * n → M a = some e → M' a = some e) : zCR G M' x z L n mb st' (qs.eraseIdx j) g := by
  have h1 := h.xz
  have h2 := h.zL
  refine ⟨h.xz, h.zL, ho, ?_, ?_, hk _ _ (by omega) (by omega) h.lgs, ?_, ?_, hk _ _ (by omega) (by omega) h.wts, ?_, hf, hk _ _ (by omega) (by omega) h.ga, ?_, ?_⟩
  · rw [e1]; exact hk _ _ (by omega) (by omega) h.dn
  · rw [e2]; exact hk _ _ (by omega) (by omega) h.ck
  · rw [e2]; exact fun i hi => hk _ _ (by omega) (by omega) (h.lg i hi)
  · rw [e2]; exact hk _ _ (by omega) (by omega) h.lz
  · rw [e3]; exact fun i hi => hk _ _ (by omega) (by omega) (h.wt i hi)
  · rw [e4, List.length_eraseIdx, List.length_eraseIdx, h.len]
  · rw [e4]
    intro i q2 mg2 a b
    rw [List.getElem?_eraseIdx] at a b
    by_cases hi : i < j
    · rw [if_pos hi] at a b
      exact (h.msg i q2 mg2 a b).to (fun a e ha => hk a e (by omega) (by omega))
    · rw [if_neg hi] at a b
      exact (h.msg (i + 1) q2 mg2 a b).to (fun a e ha => hk a e (by omega) (by omega))
theorem zlg_app (l : List Nat) (c : Nat) : upd (fun k => nI (l.getD k 0)) l.length (nI c) = fun k => nI ((l ++ [c]).getD k 0) := by
  funext k
  unfold upd
  by_cases h : k = l.length
  · subst h; simp
  · rw [if_neg h]
    show nI (l.getD k 0) = _
    rw [List.getD_eq_getElem?_getD, List.getD_eq_getElem?_getD]
    by_cases h2 : k < l.length
    · rw [List.getElem?_append_left h2]
    · rw [List.getElem?_eq_none (by omega), List.getElem?_eq_none (by rw [List.length_append]; show l.length + 1 ≤ k; omega)]
/-- a change comes to a log -/
theorem zCR.logd (h : zCR G M x z L n mb st qs g) {r c : Nat} (hr : r < n) (hM : ∀ (a : Nat) (e : va_E), a ≠ z + 3 + r → a ≠ z + 3 + n → a ≠ z + 1 → M a = some e → M' a = some e)
    (h1 : M' (z + 3 + r) = some (.inl (G.2.1 0, n * 60, .inl (upd (fun k => nI ((st.lg r).getD k 0)) (st.lg r).length (nI c)))))
    (h2 : M' (z + 3 + n) = some (.inl (G.2.1 0, n, .inl (upd (fun i => nI ((st.lg i).length)) r (nI ((st.lg r).length + 1))))))
    (h3 : M' (z + 1) = some (.inl (G.2.1 1, n, .inr (.inl (vp_updL (fun i => zck (st.lg i)) r (zck (st.lg r) + lN (256 ^ (c % 8)))))))) : zCR G M' x z L n mb (zlog st r c) qs g := by
  have g1 := h.xz
  have g2 := h.zL
  refine ⟨h.xz, h.zL, hM _ _ (by omega) (by omega) (by omega) h.obj, hM _ _ (by omega) (by omega) (by omega) h.dn, ?_, hM _ _ (by omega) (by omega) (by omega) h.lgs, ?_, ?_, hM _ _ (by omega) (by omega) (by omega) h.wts, fun i hi => hM _ _ (by omega) (by omega) (by omega) (h.wt i hi), hM _ _ (by omega) (by omega) (by omega) h.fl, hM _ _ (by omega) (by omega) (by omega) h.ga, h.len, ?_⟩
  · have hf : vp_updL (fun i => zck (st.lg i)) r (zck (st.lg r) + lN (256 ^ (c % 8))) = fun i => zck ((zlog st r c).lg i) := by
      funext i
      show (if i = r then _ else _) = zck (if i = r then _ else _)
      by_cases hi : i = r
      · rw [if_pos hi, if_pos hi, zck_app]
      · rw [if_neg hi, if_neg hi]
    rw [h3, hf]
  · intro i hi
    show M' (z + 3 + i) = some (.inl (G.2.1 0, n * 60, .inl (fun k => nI ((if i = r then st.lg r ++ [c] else st.lg i).getD k 0))))
    by_cases hir : i = r
    · subst hir; rw [h1, zlg_app, if_pos rfl]
    · rw [if_neg hir]; exact hM _ _ (by omega) (by omega) (by omega) (h.lg i hi)
  · have hf : upd (fun i => nI ((st.lg i).length)) r (nI ((st.lg r).length + 1)) = fun i => nI (((zlog st r c).lg i).length) := by
      funext i
      show (if i = r then _ else _) = nI ((if i = r then st.lg r ++ [c] else st.lg i : List Nat).length)
      by_cases hi : i = r
      · rw [if_pos hi, if_pos hi, List.length_append]; rfl
      · rw [if_neg hi, if_neg hi]
    rw [h2, hf]
  · exact fun i q mg a b => (h.msg i q mg a b).to (fun a e ha => hM a e (by omega) (by omega) (by omega))
/-- a replica goes down, or comes up -/
theorem zCR.updn (h : zCR G M x z L n mb st qs g) {r : Nat} {b : Bool} (hM : ∀ (a : Nat) (e : va_E), a ≠ z → M a = some e → M' a = some e) (h1 : M' z = some (.inl (G.2.1 2, n, .inl (upd (fun i => nI (st.dn i).toNat) r (nI b.toNat))))) : zCR G M' x z L n mb (zup st r b) qs g := by
  have g1 := h.xz
  have g2 := h.zL
  refine ⟨h.xz, h.zL, hM _ _ (by omega) h.obj, ?_, hM _ _ (by omega) h.ck, hM _ _ (by omega) h.lgs, fun i hi => hM _ _ (by omega) (h.lg i hi), hM _ _ (by omega) h.lz, hM _ _ (by omega) h.wts, fun i hi => hM _ _ (by omega) (h.wt i hi), hM _ _ (by omega) h.fl, hM _ _ (by omega) h.ga, h.len, fun i q mg a b => (h.msg i q mg a b).to (fun a e ha => hM a e (by omega))⟩
  have hf : upd (fun i => nI (st.dn i).toNat) r (nI b.toNat) = fun i => nI ((zup st r b).dn i).toNat := by
    funext i
    show (if i = r then _ else _) = nI (if i = r then b else st.dn i : Bool).toNat
    by_cases hi : i = r
    · rw [if_pos hi, if_pos hi]
    · rw [if_neg hi, if_neg hi]
  rw [h1, hf]
/-- a weight -/
theorem zCR.wtd (h : zCR G M x z L n mb st qs g) {r w : Nat} (hr : r < n) (hM : ∀ (a : Nat) (e : va_E), a ≠ z + 5 + n + r → M a = some e → M' a = some e) (h1 : M' (z + 5 + n + r) = some (.inl (G.2.1 0, 60, .inl (upd (fun k => nI ((st.wt r).getD k 0)) (st.wt r).length (nI w))))) : zCR G M' x z L n mb (zSt.mk st.dn st.lg (fun i => if i = r then st.wt r ++ [w] else st.wt i) st.fl st.se st.lo st.go st.pa) qs g := by
  have g1 := h.xz
  have g2 := h.zL
  refine ⟨h.xz, h.zL, hM _ _ (by omega) h.obj, hM _ _ (by omega) h.dn, hM _ _ (by omega) h.ck, hM _ _ (by omega) h.lgs, fun i hi => hM _ _ (by omega) (h.lg i hi), hM _ _ (by omega) h.lz, hM _ _ (by omega) h.wts, ?_, hM _ _ (by omega) h.fl, hM _ _ (by omega) h.ga, h.len, fun i q mg a b => (h.msg i q mg a b).to (fun a e ha => hM a e (by omega))⟩
  intro i hi
  show M' (z + 5 + n + i) = some (.inl (G.2.1 0, 60, .inl (fun k => nI ((if i = r then st.wt r ++ [w] else st.wt i).getD k 0))))
  by_cases hir : i = r
  · subst hir; rw [h1, zlg_app, if_pos rfl]
  · rw [if_neg hir]; exact hM _ _ (by omega) (h.wt i hi)
/-- what lies in 'gathered' -/
theorem zCR.gat (h : zCR G M x z L n mb st qs g) {g' : Nat → Int32} (hM : ∀ (a : Nat) (e : va_E), a ≠ z + 6 + 2 * n → M a = some e → M' a = some e) (h1 : M' (z + 6 + 2 * n) = some (.inl (G.2.1 0, n * 60, .inl g'))) : zCR G M' x z L n mb st qs g' := by
  have g1 := h.xz
  have g2 := h.zL
  exact ⟨h.xz, h.zL, hM _ _ (by omega) h.obj, hM _ _ (by omega) h.dn, hM _ _ (by omega) h.ck, hM _ _ (by omega) h.lgs, fun i hi => hM _ _ (by omega) (h.lg i hi), hM _ _ (by omega) h.lz, hM _ _ (by omega) h.wts, fun i hi => hM _ _ (by omega) (h.wt i hi), hM _ _ (by omega) h.fl, h1, h.len, fun i q mg a b => (h.msg i q mg a b).to (fun a e ha => hM a e (by omega))⟩
/-- other cells of the run do not matter -/
theorem zCR.to (h : zCR G M x z L n mb st qs g) (hM : ∀ (a : Nat) (e : va_E), (a = x ∨ (z ≤ a ∧ a ≤ z + 6 + 2 * n) ∨ L < a) → M a = some e → M' a = some e) : zCR G M' x z L n mb st qs g := by
  have g1 := h.xz
  have g2 := h.zL
  exact ⟨h.xz, h.zL, hM _ _ (by omega) h.obj, hM _ _ (by omega) h.dn, hM _ _ (by omega) h.ck, hM _ _ (by omega) h.lgs, fun i hi => hM _ _ (by omega) (h.lg i hi), hM _ _ (by omega) h.lz, hM _ _ (by omega) h.wts, fun i hi => hM _ _ (by omega) (h.wt i hi), hM _ _ (by omega) h.fl, hM _ _ (by omega) h.ga, h.len, fun i q mg a b => (h.msg i q mg a b).to (fun a e ha => hM a e (by omega))⟩
end ZCR
/-- behind a method of the class -/
def zCO (G : zG) (x z L n mb sz : Nat) (M : zw_M) (st' : zSt) (u : zw_M × Nat) : Prop := (∃ (qs : List Nat) (g : Nat → Int32), zCR G u.1 x z L n mb st' qs g) ∧ zfr x z n sz M u.1 ∧ sz ≤ u.2
/-- the flight while a message is being taken out -/
def zfk (qs : List Nat) (j k : Nat) : Nat → Option Nat := fun i => if i < j then qs[i]? else if i + 1 < k then qs[i + 1]? else qs[i]?
theorem zfk_0 (qs : List Nat) (j : Nat) : zfk qs j (j + 1) = fun i => qs[i]? := by
  funext i
  unfold zfk
  by_cases h : i < j
  · rw [if_pos h]
  · rw [if_neg h, if_neg (by omega)]
theorem zfk_s (qs : List Nat) {j k q : Nat} (h : j + 1 ≤ k) (hq : qs[k]? = some q) : va_up (zfk qs j k) (k - 1) (some q) = zfk qs j (k + 1) := by
  funext i
  unfold va_up zfk
  by_cases h1 : i = k - 1
  · rw [if_pos h1, if_neg (by omega), if_pos (by omega), show i + 1 = k by omega, hq]
  · rw [if_neg h1]
    by_cases h2 : i < j
    · rw [if_pos h2, if_pos h2]
    · rw [if_neg h2, if_neg h2]
      by_cases h3 : i + 1 < k
      · rw [if_pos h3, if_pos (by omega)]
      · rw [if_neg h3, if_neg (by omega)]
theorem zfk_e (qs : List Nat) {j : Nat} (h : j < qs.length) : va_up (zfk qs j qs.length) (qs.length - 1) none = fun i => (qs.eraseIdx j)[i]? := by
  funext i
  rw [List.getElem?_eraseIdx]
  unfold va_up zfk
  by_cases h1 : i = qs.length - 1
  · rw [if_pos h1, if_neg (by omega), List.getElem?_eq_none (by omega)]
  · rw [if_neg h1]
    by_cases h2 : i < j
    · rw [if_pos h2, if_pos h2]
    · rw [if_neg h2, if_neg h2]
      by_cases h3 : i + 1 < qs.length
      · rw [if_pos h3]
      · rw [if_neg h3, List.getElem?_eq_none (by omega), List.getElem?_eq_none (by omega)]
