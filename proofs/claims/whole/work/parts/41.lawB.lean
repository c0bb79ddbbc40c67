/-! PURE: what a call leaves holds again -/
section ZPL
variable {n : Nat} {st : zSt}
theorem zwt_len (wt : Nat → List Nat) (r w i : Nat) : (if i = r then wt r ++ [w] else wt i).length = (wt i).length + if i = r then 1 else 0 := by
  by_cases h : i = r
  · subst h; simp
  · simp [h]
theorem zval.wt {wt : Nat → List Nat} {r w c : Nat} (h : zval n wt c) : zval n (fun i => if i = r then wt r ++ [w] else wt i) c := by
  refine ⟨h.1, h.2.1, ?_⟩
  show c / 8 ≤ (if c % 8 = r then wt r ++ [w] else wt (c % 8)).length
  rw [zwt_len]
  have := h.2.2
  omega
theorem zwo_wt {wt : Nat → List Nat} {r w c : Nat} (h : zval n wt c) : zwo (fun i => if i = r then wt r ++ [w] else wt i) c = zwo wt c := by
  show (if c % 8 = r then wt r ++ [w] else wt (c % 8)).getD (c / 8 - 1) 0 = (wt (c % 8)).getD (c / 8 - 1) 0
  obtain ⟨-, h2, h3⟩ := h
  by_cases e : c % 8 = r
  · rw [if_pos e]
    rw [e] at h3 ⊢
    rw [List.getD_eq_getElem?_getD, List.getD_eq_getElem?_getD, List.getElem?_append_left (by omega)]
  · rw [if_neg e]
theorem zMok.wt {wt : Nat → List Nat} {r w : Nat} {mg : zMg} (h : zMok n wt mg) : zMok n (fun i => if i = r then wt r ++ [w] else wt i) mg := by
  unfold zMok at h ⊢
  obtain ⟨h1, h2, h3⟩ := h
  refine ⟨h1, h2, ?_⟩
  cases hk : mg.ck with
  | some k => rw [hk] at h3; exact h3
  | none =>
    rw [hk] at h3
    obtain ⟨a1, a2, a3, a4⟩ := h3
    exact ⟨a1, a2, fun c hc => (a3 c hc).wt, by rw [a4, List.map_congr_left (fun c hc => zwo_wt (a3 c hc))]⟩
theorem zOK.make (h : zOK n st) (hn : n ≤ 8) {r w : Nat} (hr : r < n) (h60 : (st.wt r).length < 60) (hw1 : 1 ≤ w) (hw4 : w ≤ 400) : zOK n (zmake st r w) := by
  have hc8 : (r + 8 * ((st.wt r).length + 1)) % 8 = r := by omega
  have hcd : (r + 8 * ((st.wt r).length + 1)) / 8 = (st.wt r).length + 1 := by omega
  refine ⟨fun q hq d hd => ?_, fun q a hq ha => ?_, fun a ha => ?_, fun a ha v hv => ?_, h.fl, fun mg hmg => (h.msg hmg).wt⟩
  · change d ∈ (if q = r then st.lg r ++ [r + 8 * ((st.wt r).length + 1)] else st.lg q) at hd
    show zval n (fun i => if i = r then st.wt r ++ [w] else st.wt i) d
    by_cases e : q = r
    · rw [if_pos e] at hd
      rcases List.mem_append.mp hd with h1 | h1
      · exact (h.1 r hr d h1).wt
      · rw [List.mem_singleton.mp h1]
        refine ⟨by rw [hc8]; exact hr, by rw [hcd]; omega, ?_⟩
        show _ ≤ (if _ = r then st.wt r ++ [w] else st.wt _).length
        rw [hc8, hcd, if_pos rfl, List.length_append]
        exact Nat.le_refl _
    · rw [if_neg e] at hd
      exact (h.1 q hq d hd).wt
  · show zcnt a (if q = r then st.lg r ++ [r + 8 * ((st.wt r).length + 1)] else st.lg q) ≤ (if a = r then st.wt r ++ [w] else st.wt a).length
    rw [zwt_len]
    by_cases e : q = r
    · rw [if_pos e, zcnt_app, hc8]
      have h1 := h.2.1 r a hr ha
      by_cases e2 : r = a
      · rw [if_pos e2, if_pos e2.symm]; omega
      · rw [if_neg e2]; omega
    · rw [if_neg e]
      have := h.2.1 q a hq ha
      omega
  · show zcnt a (if a = r then st.lg r ++ [r + 8 * ((st.wt r).length + 1)] else st.lg a) = (if a = r then st.wt r ++ [w] else st.wt a).length ∧ (if a = r then st.wt r ++ [w] else st.wt a).length ≤ 60
    rw [zwt_len]
    have h1 := h.2.2.1 a ha
    by_cases e : a = r
    · subst e
      rw [if_pos rfl, if_pos rfl, zcnt_app, hc8, if_pos rfl]
      omega
    · rw [if_neg e, if_neg e]
      omega
  · change v ∈ (if a = r then st.wt r ++ [w] else st.wt a) at hv
    by_cases e : a = r
    · rw [if_pos e] at hv
      rcases List.mem_append.mp hv with h1 | h1
      · exact h.2.2.2.1 r hr v h1
      · rw [List.mem_singleton.mp h1]; exact ⟨hw1, hw4⟩
    · rw [if_neg e] at hv
      exact h.2.2.2.1 a ha v hv
theorem zOK.deliver (h : zOK n st) (hn : n ≤ 8) {i mb : Nat} {mg : zMg} (hmg : st.fl[i]? = some mg) : zOK n (zdeliver st i mg mb).1 := by
  have hm := h.msg (List.mem_of_getElem? hmg)
  unfold zMok at hm
  obtain ⟨m1, m2, m3⟩ := hm
  have h1 := h.drop i
  unfold zdeliver
  by_cases hd : st.dn mg.rcv = true
  · rw [if_pos hd]; exact h1.same rfl rfl rfl
  · rw [if_neg hd]
    cases hk : mg.ck with
    | some k =>
      show zOK n (zanswer (zdrop st i) mg.rcv mg.snd k mb).1
      rw [← zA_e]
      exact (zA_ok h1 hn m2 m1 _ (Nat.le_refl _)).end (by have := h1.len m2; omega) m2 m1
    | none =>
      rw [hk] at m3
      exact (h1.tas m2 _ 0 (fun c hc => m3.2.2.1 c hc)).1
theorem zOK.twice (h : zOK n st) {i : Nat} {mg : zMg} (hmg : st.fl[i]? = some mg) : zOK n (zsend st mg.snd mg.rcv mg.byt mg.ck mg.chs) := by
  have hm := h.msg (List.mem_of_getElem? hmg)
  exact h.send (fun num => hm)
theorem zOK.lose (h : zOK n st) (i : Nat) : zOK n (zlost (zdrop st i)) := (h.drop i).same rfl rfl rfl
theorem zOK.up (h : zOK n st) (i : Nat) (b : Bool) : zOK n (zup st i b) := h.same rfl rfl rfl
theorem zOK_0 : zOK n z0 := by
  refine ⟨fun r _ c hc => ?_, fun r a _ _ => ?_, fun a _ => ⟨rfl, Nat.zero_le _⟩, fun a _ w hw => ?_, Nat.zero_le _, fun mg hmg => ?_⟩
  · cases hc
  · exact Nat.le_refl _
  · cases hw
  · cases hmg
end ZPL
/-- a script's length less 3 -/
theorem zsub3 {i len : Nat} (hi : i < 2 ^ 31) (hl : len < 2 ^ 31) (h : ¬ nI len - nI 3 < nI i) : i + 3 ≤ len := by
  by_cases h3 : 3 ≤ len
  · obtain ⟨k, rfl⟩ : ∃ k, len = k + 3 := ⟨len - 3, by omega⟩
    have e : nI (k + 3) - nI 3 = nI k := by rw [← nI_add]; exact Int32.add_sub_cancel _ _
    rw [e] at h
    rcases Nat.lt_or_ge k i with h1 | h1
    · exact absurd (nI_lt h1 hi) h
    · omega
  · exfalso
    apply h
    have h0 : (nI len - nI 3) < 0 := by
      rcases (show len = 0 ∨ len = 1 ∨ len = 2 by omega) with rfl | rfl | rfl <;> decide
    exact Int32.lt_of_lt_of_le h0 (nI_pos' hi)
