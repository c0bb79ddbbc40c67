/-! WHAT HOLDS IN EVERY RUN -/
theorem zcnt_cons (a c : Nat) (L : List Nat) : zcnt a (c :: L) = zcnt a L + if c % 8 = a then 1 else 0 := by
  unfold zcnt
  rw [List.filter_cons]
  by_cases h : c % 8 = a
  · simp [h]
  · simp [h]
theorem zsum_add (f g : Nat → Nat) : ∀ n, zsum (fun i => f i + g i) n = zsum f n + zsum g n
  | 0 => rfl
  | n + 1 => by
    show zsum (fun i => f i + g i) n + (f n + g n) = zsum f n + f n + (zsum g n + g n)
    rw [zsum_add f g n]; omega
theorem zsum_one {a : Nat} : ∀ {n : Nat}, zsum (fun i => if a = i then 1 else 0) n = if a < n then 1 else 0
  | 0 => by simp [zsum]
  | n + 1 => by
    show zsum (fun i => if a = i then 1 else 0) n + (if a = n then 1 else 0) = _
    rw [zsum_one]
    by_cases h1 : a < n
    · rw [if_pos h1, if_neg (by omega), if_pos (by omega)]
    · by_cases h2 : a = n
      · rw [if_neg h1, if_pos h2, if_pos (by omega)]
      · rw [if_neg h1, if_neg h2, if_neg (by omega)]
theorem zsum_zero : ∀ n, zsum (fun _ => 0) n = 0
  | 0 => rfl
  | n + 1 => zsum_zero n
theorem zlen {n : Nat} : ∀ (L : List Nat), (∀ c ∈ L, c % 8 < n) → L.length = zsum (fun a => zcnt a L) n
  | [], _ => (zsum_zero n).symm
  | c :: L, h => by
    have h1 := zlen L (fun d hd => h d (List.mem_cons_of_mem _ hd))
    have h2 : (fun a => zcnt a (c :: L)) = fun a => zcnt a L + if c % 8 = a then 1 else 0 := funext (fun a => zcnt_cons a c L)
    rw [h2, zsum_add, ← h1, zsum_one, if_pos (h c List.mem_cons_self)]
    rfl
theorem zsum_lt {f : Nat → Nat} {b a : Nat} : ∀ {n : Nat}, (∀ i, i < n → f i ≤ b) → a < n → f a < b → zsum f n < n * b
  | 0, _, ha, _ => absurd ha (by omega)
  | n + 1, h, ha, hb => by
    show zsum f n + f n < (n + 1) * b
    rw [Nat.succ_mul]
    by_cases hn : a = n
    · subst hn
      have := zsum_le (n := a) (fun i hi => h i (by omega))
      omega
    · have := zsum_lt (n := n) (fun i hi => h i (by omega)) (by omega) hb
      have := h n (by omega)
      omega
theorem zsum_mono {f g : Nat → Nat} : ∀ {n : Nat}, (∀ i, i < n → f i ≤ g i) → zsum f n ≤ zsum g n
  | 0, _ => Nat.le_refl _
  | n + 1, h => by
    have h1 := zsum_mono (n := n) (fun i hi => h i (by omega))
    have h2 := h n (by omega)
    show zsum f n + f n ≤ zsum g n + g n
    omega
theorem zcnt_0 {a n : Nat} (ha : n ≤ a) : ∀ (L : List Nat), (∀ c ∈ L, c % 8 < n) → zcnt a L = 0
  | [], _ => rfl
  | c :: L, h => by
    rw [zcnt_cons, zcnt_0 ha L (fun d hd => h d (List.mem_cons_of_mem _ hd)), if_neg (by have := h c List.mem_cons_self; omega)]
/-- a change that was made -/
def zval (n : Nat) (wt : Nat → List Nat) (c : Nat) : Prop := c % 8 < n ∧ 1 ≤ c / 8 ∧ c / 8 ≤ (wt (c % 8)).length
def zMok (n : Nat) (wt : Nat → List Nat) (mg : zMg) : Prop := mg.snd < n ∧ mg.rcv < n ∧ match mg.ck with
  | some k => k ≠ -1 ∧ mg.byt = 3 + n ∧ mg.chs = []
  | none => 0 < mg.chs.length ∧ mg.chs.length ≤ 480 ∧ (∀ c ∈ mg.chs, zval n wt c) ∧ mg.byt = 3 + (mg.chs.map (zwo wt)).sum
def zOK (n : Nat) (st : zSt) : Prop :=
  (∀ r, r < n → ∀ c ∈ st.lg r, zval n st.wt c) ∧
  (∀ r a, r < n → a < n → zcnt a (st.lg r) ≤ (st.wt a).length) ∧
  (∀ a, a < n → zcnt a (st.lg a) = (st.wt a).length ∧ (st.wt a).length ≤ 60) ∧
  (∀ a, a < n → ∀ w ∈ st.wt a, 1 ≤ w ∧ w ≤ 400) ∧
  st.fl.length ≤ 120 ∧ (∀ mg ∈ st.fl, zMok n st.wt mg)
section ZOK
variable {n : Nat} {st st' : zSt}
theorem zOK.fl (h : zOK n st) : st.fl.length ≤ 120 := h.2.2.2.2.1
theorem zOK.msg (h : zOK n st) {mg : zMg} (hm : mg ∈ st.fl) : zMok n st.wt mg := h.2.2.2.2.2 mg hm
theorem zOK.val (h : zOK n st) {r c : Nat} (hr : r < n) (hc : c ∈ st.lg r) : zval n st.wt c := h.1 r hr c hc
theorem zOK.cnt60 (h : zOK n st) {r a : Nat} (hr : r < n) (ha : a < n) : zcnt a (st.lg r) ≤ 60 := Nat.le_trans (h.2.1 r a hr ha) (h.2.2.1 a ha).2
theorem zOK.b8 (h : zOK n st) {r : Nat} (hr : r < n) (b : Nat) (_ : b < 8) : zcnt b (st.lg r) < 256 := by
  by_cases hb : b < n
  · have := h.cnt60 hr hb; omega
  · rw [zcnt_0 (by omega) _ (fun c hc => (h.1 r hr c hc).1)]; decide
theorem zOK.len (h : zOK n st) {r : Nat} (hr : r < n) : (st.lg r).length ≤ n * 60 := by
  rw [zlen (n := n) _ (fun c hc => (h.1 r hr c hc).1)]
  exact zsum_le (fun i hi => h.cnt60 hr hi)
theorem zOK.len2 (h : zOK n st) {r c : Nat} (hr : r < n) (hc : zval n st.wt c) (hf : zfits st r c) : (st.lg r).length < n * 60 := by
  rw [zlen (n := n) _ (fun c hc => (h.1 r hr c hc).1)]
  refine zsum_lt (a := c % 8) (fun i hi => h.cnt60 hr hi) hc.1 ?_
  have h1 := (h.2.2.1 _ hc.1).2
  have h2 := hc.2.2
  unfold zfits at hf
  omega
theorem zval.lt (hn : n ≤ 8) (h : zOK n st) {c : Nat} (hc : zval n st.wt c) : c < 2 ^ 31 := by
  have h1 := (h.2.2.1 _ hc.1).2
  have h2 := hc.2.2
  omega
theorem zck_ne (h : zOK n st) {r : Nat} (hr : r < n) : zck (st.lg r) ≠ -1 := by
  intro e
  have h1 := zck_at (h.b8 hr) (a := 0) (by decide)
  rw [e] at h1
  have h2 : zcnt 0 (st.lg r) ≤ 60 := h.cnt60 hr (by omega)
  have h3 : zb (-1) 0 = 255 := by decide
  omega
theorem zOK.same (h : zOK n st) (e2 : st'.lg = st.lg) (e3 : st'.wt = st.wt) (e4 : st'.fl = st.fl) : zOK n st' := by
  unfold zOK
  rw [e2, e3, e4]
  exact h
theorem zOK.send (h : zOK n st) {a b c : Nat} {k : Option Int64} {L : List Nat} (hm : ∀ num, zMok n st.wt (zMg.mk num a b c k L)) : zOK n (zsend st a b c k L) := by
  unfold zsend
  by_cases hl : st.fl.length < 120
  · rw [if_pos hl]
    refine ⟨h.1, h.2.1, h.2.2.1, h.2.2.2.1, ?_, fun mg hmg => ?_⟩
    · show (st.fl ++ [_]).length ≤ 120
      rw [List.length_append]
      exact hl
    · rcases List.mem_append.mp hmg with h1 | h1
      · exact h.msg h1
      · rw [List.mem_singleton.mp h1]; exact hm _
  · rw [if_neg hl]
    exact h.same rfl rfl rfl
theorem zOK.drop (h : zOK n st) (i : Nat) : zOK n (zdrop st i) := by
  refine ⟨h.1, h.2.1, h.2.2.1, h.2.2.2.1, ?_, fun mg hmg => h.msg (List.mem_of_mem_eraseIdx hmg)⟩
  exact Nat.le_trans (List.length_eraseIdx_le _ _) h.fl
theorem zOK.log (h : zOK n st) {r c : Nat} (hr : r < n) (hc : zval n st.wt c) (hf : zfits st r c) : zOK n (zlog st r c) := by
  have hcr : c % 8 ≠ r := fun e => by
    have h1 := (h.2.2.1 _ hc.1).1
    have h2 := hc.2.2
    unfold zfits at hf
    rw [e] at h1 h2 hf
    omega
  refine ⟨fun q hq d hd => ?_, fun q a hq ha => ?_, fun a ha => ?_, h.2.2.2.1, h.2.2.2.2.1, h.2.2.2.2.2⟩
  · change d ∈ (if q = r then st.lg r ++ [c] else st.lg q) at hd
    by_cases e : q = r
    · rw [if_pos e] at hd
      rcases List.mem_append.mp hd with h1 | h1
      · exact h.1 r hr d h1
      · rw [List.mem_singleton.mp h1]; exact hc
    · rw [if_neg e] at hd
      exact h.1 q hq d hd
  · show zcnt a (if q = r then st.lg r ++ [c] else st.lg q) ≤ (st.wt a).length
    by_cases e : q = r
    · rw [if_pos e, zcnt_app]
      have h1 := h.2.1 r a hr ha
      by_cases ec : c % 8 = a
      · rw [if_pos ec]
        have h2 := hc.2.2
        unfold zfits at hf
        rw [ec] at hf h2
        omega
      · rw [if_neg ec]; exact h1
    · rw [if_neg e]; exact h.2.1 q a hq ha
  · refine ⟨?_, (h.2.2.1 a ha).2⟩
    show zcnt a (if a = r then st.lg r ++ [c] else st.lg a) = (st.wt a).length
    by_cases e : a = r
    · rw [if_pos e, zcnt_app, if_neg (by omega), e]; exact (h.2.2.1 r hr).1
    · rw [if_neg e]; exact (h.2.2.1 a ha).1
theorem zOK.ta (h : zOK n st) {r c k : Nat} (hr : r < n) (hc : zval n st.wt c) : zOK n (zta r (st, k) c).1 ∧ (zta r (st, k) c).1.wt = st.wt := by
  unfold zta
  by_cases hf : zfits st r c
  · rw [if_pos hf]; exact ⟨h.log hr hc hf, rfl⟩
  · rw [if_neg hf]; exact ⟨h.same rfl rfl rfl, rfl⟩
theorem zOK.tas (h : zOK n st) {r : Nat} (hr : r < n) : ∀ (L : List Nat) (k : Nat), (∀ c ∈ L, zval n st.wt c) → zOK n (L.foldl (zta r) (st, k)).1 ∧ (L.foldl (zta r) (st, k)).1.wt = st.wt := by
  intro L
  induction L generalizing st with
  | nil => exact fun k _ => ⟨h, rfl⟩
  | cons c L ih =>
    intro k hL
    obtain ⟨h1, h2⟩ := h.ta (k := k) hr (hL c List.mem_cons_self)
    obtain ⟨h3, h4⟩ := ih h1 (zta r (st, k) c).2 (fun d hd => by rw [h2]; exact hL d (List.mem_cons_of_mem _ hd))
    exact ⟨h3, h4.trans h2⟩
end ZOK
