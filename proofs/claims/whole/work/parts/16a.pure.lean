/-! walks of lists: a PART's changes, an answer's log -/
def zT2 (st : zSt) (rc : Nat) (chs : List Nat) (i : Nat) : zSt × Nat := (chs.take i).foldl (zta rc) (st, 0)
theorem zT2_s (st : zSt) (rc : Nat) (chs : List Nat) {i : Nat} (h : i < chs.length) : zT2 st rc chs (i + 1) = zta rc (zT2 st rc chs i) (chs.getD i 0) := zfold _ _ _ h
theorem zT2_e (st : zSt) (rc : Nat) (chs : List Nat) : zT2 st rc chs chs.length = chs.foldl (zta rc) (st, 0) := by unfold zT2; rw [List.take_length]
theorem zT2_ok {n : Nat} {st : zSt} (h : zOK n st) {rc : Nat} (hr : rc < n) {chs : List Nat} (hv : ∀ c ∈ chs, zval n st.wt c) (i : Nat) : zOK n (zT2 st rc chs i).1 ∧ (zT2 st rc chs i).1.wt = st.wt := h.tas hr _ 0 (fun c hc => hv c (List.mem_of_mem_take hc))
theorem zget_mem {L : List Nat} {i : Nat} (h : i < L.length) : L.getD i 0 ∈ L := by
  rw [List.getD_eq_getElem?_getD, List.getElem?_eq_getElem h]
  exact List.getElem_mem h
def zA (st : zSt) (rc sd : Nat) (told : Int64) (mb i : Nat) : zAn := ((st.lg rc).take i).foldl (zan rc sd told mb) (zAn.mk st 0 [] 3)
theorem zA_s (st : zSt) (rc sd : Nat) (told : Int64) (mb : Nat) {i : Nat} (h : i < (st.lg rc).length) : zA st rc sd told mb (i + 1) = zan rc sd told mb (zA st rc sd told mb i) ((st.lg rc).getD i 0) := zfold _ _ _ h
theorem zA_e (st : zSt) (rc sd : Nat) (told : Int64) (mb : Nat) : zae rc sd (zA st rc sd told mb (st.lg rc).length) = zanswer st rc sd told mb := by unfold zA zanswer; rw [List.take_length]
/-- an answer on its way -/
def zAok (n : Nat) (st : zSt) (i : Nat) (q : zAn) : Prop := zOK n q.st ∧ q.st.lg = st.lg ∧ q.st.wt = st.wt ∧ q.part.length ≤ i ∧ (∀ c ∈ q.part, zval n st.wt c) ∧ q.byt = 3 + (q.part.map (zwo st.wt)).sum
theorem zwo_le {n : Nat} {st : zSt} (h : zOK n st) {c : Nat} (hc : zval n st.wt c) : 1 ≤ zwo st.wt c ∧ zwo st.wt c ≤ 400 := by
  have h1 : c / 8 - 1 < (st.wt (c % 8)).length := by have := hc.2; omega
  exact h.2.2.2.1 _ hc.1 _ (zget_mem h1)
theorem zsum_w {n : Nat} {st : zSt} (h : zOK n st) : ∀ (L : List Nat), (∀ c ∈ L, zval n st.wt c) → (L.map (zwo st.wt)).sum ≤ 400 * L.length
  | [], _ => Nat.le_refl _
  | c :: L, hL => by
    have h1 := zsum_w h L (fun d hd => hL d (List.mem_cons_of_mem _ hd))
    have h2 := zwo_le h (hL c List.mem_cons_self)
    rw [List.map_cons, List.sum_cons, List.length_cons]
    omega
theorem zAok.step {n : Nat} {st : zSt} (h0 : zOK n st) {rc sd : Nat} {told : Int64} {mb i : Nat} {q : zAn} (hi : i < 480) (hr : rc < n) (hs : sd < n) (h : zAok n st i q) {c : Nat} (hc : zval n st.wt c) : zAok n st (i + 1) (zan rc sd told mb q c) := by
  obtain ⟨h1, h2, h3, h4, h5, h6⟩ := h
  unfold zan
  by_cases e1 : c / 8 ≤ zb told (c % 8)
  · rw [if_pos e1]; exact ⟨h1, h2, h3, by omega, h5, h6⟩
  · rw [if_neg e1]
    by_cases e2 : 0 < q.part.length ∧ mb < q.byt + zwo q.st.wt c
    · rw [if_pos e2]
      refine ⟨h1.send (fun num => ⟨hr, hs, e2.1, ?_, ?_, ?_⟩), (zsend_lg _ _ _ _ _ _).trans h2, (zsend_wt _ _ _ _ _ _).trans h3, by show 1 ≤ i + 1; omega, ?_, ?_⟩
      · show q.part.length ≤ 480; omega
      · rw [h3]; exact h5
      · show q.byt = _; rw [h3]; exact h6
      · intro d hd
        rw [List.mem_singleton.mp hd]; exact hc
      · show 3 + zwo q.st.wt c = 3 + (zwo st.wt c + 0)
        rw [h3]; rfl
    · rw [if_neg e2]
      refine ⟨h1, h2, h3, ?_, ?_, ?_⟩
      · show (q.part ++ [c]).length ≤ i + 1
        rw [List.length_append]; show q.part.length + 1 ≤ i + 1; omega
      · intro d hd
        rcases List.mem_append.mp hd with w | w
        · exact h5 d w
        · rw [List.mem_singleton.mp w]; exact hc
      · show q.byt + zwo q.st.wt c = 3 + ((q.part ++ [c]).map (zwo st.wt)).sum
        rw [List.map_append, List.sum_append, h6, h3]
        show _ = 3 + (_ + (zwo st.wt c + 0))
        omega
theorem zA_ok {n : Nat} {st : zSt} (h0 : zOK n st) (hn : n ≤ 8) {rc sd : Nat} {told : Int64} {mb : Nat} (hr : rc < n) (hs : sd < n) : ∀ (i : Nat), i ≤ (st.lg rc).length → zAok n st i (zA st rc sd told mb i)
  | 0, _ => ⟨h0, rfl, rfl, Nat.le_refl _, fun c hc => (by cases hc), rfl⟩
  | i + 1, hi => by
    have h1 := zA_ok h0 hn hr hs i (by omega) (told := told) (mb := mb)
    rw [zA_s st rc sd told mb (by omega)]
    have h2 := h0.len hr
    exact h1.step h0 (by omega) hr hs (h0.val hr (zget_mem (by omega)))
theorem zAok.byt {n : Nat} {st : zSt} (h0 : zOK n st) {i : Nat} {q : zAn} (h : zAok n st i q) : q.byt ≤ 3 + 400 * i := by
  obtain ⟨-, -, -, h4, h5, h6⟩ := h
  have := zsum_w h0 _ h5
  have : 400 * q.part.length ≤ 400 * i := Nat.mul_le_mul_left _ h4
  omega
theorem zAok.end {n : Nat} {st : zSt} {rc sd i : Nat} {q : zAn} (hi : i ≤ 480) (hr : rc < n) (hs : sd < n) (h : zAok n st i q) : zOK n (zae rc sd q).1 := by
  obtain ⟨h1, h2, h3, h4, h5, h6⟩ := h
  unfold zae
  by_cases e : 0 < q.part.length
  · rw [if_pos e]
    refine h1.send (fun num => ⟨hr, hs, e, ?_, ?_, ?_⟩)
    · show q.part.length ≤ 480; omega
    · rw [h3]; exact h5
    · show q.byt = _; rw [h3]; exact h6
  · rw [if_neg e]; exact h1
