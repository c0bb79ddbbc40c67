/-! EACH CALL: class and reference side by side -/
theorem zMr.two {G : zG} {M : zw_M} {L q n : Nat} {wt : Nat → List Nat} {mg : zMg} (h : zMr G M L q mg) (hm : zMok n wt mg) :
    (∃ k, mg.ck = some k ∧ k ≠ -1 ∧ M q = some (.inr (0, zoM (nI mg.num) (nI mg.snd) (nI mg.rcv) (nI mg.byt) k G.2.2))) ∨
    (mg.ck = none ∧ mg.chs.length ≤ 480 ∧ ∃ (ch : Nat) (f : Nat → Int32), M q = some (.inr (0, zoM (nI mg.num) (nI mg.snd) (nI mg.rcv) (nI mg.byt) (-1) ch)) ∧ M ch = some (.inl (G.2.1 0, mg.chs.length, .inl f)) ∧ ∀ k, k < mg.chs.length → f k = nI (mg.chs.getD k 0)) := by
  unfold zMr at h
  unfold zMok at hm
  obtain ⟨-, h⟩ := h
  obtain ⟨-, -, hm⟩ := hm
  cases hk : mg.ck with
  | some k =>
    rw [hk] at h hm
    exact Or.inl ⟨k, rfl, hm.1, h⟩
  | none =>
    rw [hk] at h hm
    obtain ⟨ch, f, -, a2, a3, a4⟩ := h
    exact Or.inr ⟨rfl, hm.2.1, ch, f, a2, a3, a4⟩
theorem zMr.ob {G : zG} {M : zw_M} {L q n : Nat} {wt : Nat → List Nat} {mg : zMg} (h : zMr G M L q mg) (hm : zMok n wt mg) : ∃ (told : Int64) (ch : Nat), M q = some (.inr (0, zoM (nI mg.num) (nI mg.snd) (nI mg.rcv) (nI mg.byt) told ch)) := by
  rcases h.two hm with ⟨k, -, -, h1⟩ | ⟨-, -, ch, f, h1, -⟩
  · exact ⟨_, _, h1⟩
  · exact ⟨_, _, h1⟩
theorem zsum_cg {f g : Nat → Nat} : ∀ {n : Nat}, (∀ i, i < n → f i = g i) → zsum f n = zsum g n
  | 0, _ => rfl
  | n + 1, h => by
    show zsum f n + f n = zsum g n + g n
    rw [zsum_cg (n := n) (fun i hi => h i (by omega)), h n (by omega)]
theorem zOK.own {n : Nat} {st : zSt} (h : zOK n st) (hn : n ≤ 8) {a : Nat} (ha : a < n) : zb (zck (st.lg a)) a = (st.wt a).length := (zck_at (h.b8 ha) (by omega)).trans (h.2.2.1 a ha).1
theorem zOK.tot {n : Nat} {st : zSt} (h : zOK n st) (hn : n ≤ 8) : zsum (fun a => zb (zck (st.lg a)) a) n = zsum (fun a => (st.wt a).length) n := zsum_cg (fun i hi => h.own hn hi)
theorem zOK.all {n : Nat} {st : zSt} (h : zOK n st) {r : Nat} (hr : r < n) : (st.lg r).length ≤ zsum (fun a => (st.wt a).length) n := by
  rw [zlen (n := n) _ (fun c hc => (h.1 r hr c hc).1)]
  exact zsum_mono (fun i hi => h.2.1 r i hr hi)
/-- what a helper's call leaves -/
def zLO (G : zG) (x z L n mb sz : Nat) (M : zw_M) (st : zSt) (k : Nat) (b : Int64) (u : zw_M × Nat) : Prop :=
  (∃ (qs : List Nat) (g : Nat → Int32), zCR G u.1 x z L n mb st qs g) ∧ (∀ q : Nat, q ≠ x → q ≠ L → (q < z ∨ z + 6 + 2 * n < q) → q < sz → u.1 q = M q) ∧ sz ≤ u.2 ∧ ∃ f : Nat → Int64, u.1 L = some (.inl (G.2.1 1, 1, .inr (.inl f))) ∧ (k = 0 → f 0 = b)
theorem zCO_at {G : zG} {x z L n mb sz : Nat} {M : zw_M} {st : zSt} {u : zw_M × Nat} (h : zCO G x z L n mb sz M st u) (hxz : x < z) (hzL : z + 6 + 2 * n < L) (hL : L < sz) : u.1 L = M L := h.2.1 L (by omega) (Or.inr hzL) hL
theorem zCO_rf {G : zG} {M : zw_M} {x z L n mb sz : Nat} {st : zSt} {qs : List Nat} {g : Nat → Int32} (h : zCR G M x z L n mb st qs g) : zCO G x z L n mb sz M st (M, sz) := ⟨⟨qs, g, h⟩, zfr.rf, Nat.le_refl _⟩
theorem zLO_r {G : zG} {x z L n mb sz : Nat} {M : zw_M} {st : zSt} {u u1 : zw_M × Nat} {f0 : Nat → Int64} {v : Int64} (h : zCO G x z L n mb sz M st u1) (hxz : x < z) (hzL : z + 6 + 2 * n < L) (e1 : u.1 = zw_u u1.1 L (.inl (G.2.1 1, 1, .inr (.inl (vp_updL f0 0 v))))) (e2 : u.2 = u1.2) : zLO G x z L n mb sz M st 0 v u := by
  obtain ⟨⟨qs, g, h1⟩, h2, h3⟩ := h
  refine ⟨⟨qs, g, ?_⟩, fun q q1 q2 q3 q4 => by rw [e1, zw_un _ _ q2]; exact h2 q q1 q3 q4, by rw [e2]; exact h3, _, by rw [e1]; exact zw_us _ _ _, fun _ => by simp [vp_updL]⟩
  rw [e1]
  exact h1.to (fun a e ha h => by rw [zw_un _ _ (by omega)]; exact h)
theorem zLO_t {G : zG} {x z L n mb sz : Nat} {M : zw_M} {st : zSt} {qs : List Nat} {g : Nat → Int32} {u : zw_M × Nat} {f0 : Nat → Int64} {k : Nat} {b : Int64} (h : zCR G M x z L n mb st qs g) (ho : M L = some (.inl (G.2.1 1, 1, .inr (.inl f0)))) (e1 : u.1 = M) (e2 : sz ≤ u.2) (hk : k ≠ 0) : zLO G x z L n mb sz M st k b u :=
  ⟨⟨qs, g, by rw [e1]; exact h⟩, fun q _ _ _ _ => by rw [e1], e2, f0, by rw [e1]; exact ho, fun h9 => absurd h9 hk⟩
/-- a helper's contract -/
def zHC (l : Launch) (G : zG) (B x z L n mb : Nat) (st st' : zSt) (y : MethodName) (w : Cond) (av : List Value) (k : Nat) (b : Int64) : Prop :=
  ∀ (M : zw_M) (sz : Nat) (qs : List Nat) (g : Nat → Int32) (f0 : Nat → Int64), zCR G M x z L n mb st qs g → M L = some (.inl (G.2.1 1, 1, .inr (.inl f0))) → z + 6 + 2 * n < L → L < sz → zMn l G B M sz y (w :: zT) { frames := 7, cells := 960, slots := 3360, locals := 170 } av (fun r u => r = nI k ∧ zLO G x z L n mb sz M st' k b u) 960 3360
/-- the class's own, by the law itself -/
def zHD (l : Launch) (G : zG) (B x z L n mb : Nat) (st st' : zSt) (y : MethodName) (w : Cond) (av : List Value) (b : Int32) : Prop :=
  ∀ (M : zw_M) (sz : Nat) (qs : List Nat) (g : Nat → Int32), zCR G M x z L n mb st qs g → zMi l G B M sz y (w :: zT) { frames := 6, cells := 0, slots := 0, locals := 140 } av (fun r u => r = b ∧ zCO G x z L n mb sz M st' u) 0 0
def zHDl (l : Launch) (G : zG) (B x z L n mb : Nat) (st st' : zSt) (y : MethodName) (w : Cond) (av : List Value) (b : Int64) : Prop :=
  ∀ (M : zw_M) (sz : Nat) (qs : List Nat) (g : Nat → Int32), zCR G M x z L n mb st qs g → zMl l G B M sz y (w :: zT) { frames := 6, cells := 0, slots := 0, locals := 140 } av (fun r u => r = b ∧ zCO G x z L n mb sz M st' u) 0 0
/-- the reference's -/
def zHR (l : Launch) (G : zG) (B x z n mb : Nat) (st st' : zSt) (y : MethodName) (w : Cond) (av : List Value) (k : Nat) (b : Int32) : Prop :=
  ∀ (M : zw_M) (sz th pt : Nat) (Y : zRX), zRR G M x z n mb st th pt Y → zMi l G B M sz y (w :: zT) { frames := 2, cells := 0, slots := 0, locals := 60 } av (fun r u => r = b ∧ zRO G x z n mb sz M st' k u) 0 0
def zHRl (l : Launch) (G : zG) (B x z n mb : Nat) (st st' : zSt) (y : MethodName) (w : Cond) (av : List Value) (k : Nat) (b : Int64) : Prop :=
  ∀ (M : zw_M) (sz th pt : Nat) (Y : zRX), zRR G M x z n mb st th pt Y → zMl l G B M sz y (w :: zT) { frames := 2, cells := 0, slots := 0, locals := 60 } av (fun r u => r = b ∧ zRO G x z n mb sz M st' k u) 0 0
theorem zrd {l : Launch} {G : zG} {B : Nat} {M : zw_M} {y : MethodName} {ws : List Cond} {rm rm' : Room} {av : List Value} {v : Int32} {x z L n mb : Nat} {st : zSt} {qs : List Nat} {g : Nat → Int32} (sz : Nat) (hR : zCR G M x z L n mb st qs g) (h : Met l y ws rm (zp G B M av) (k2_QcV (.int v)) 0 0 (fun _ => False)) (hr : rm.frames ≤ rm'.frames ∧ rm.locals ≤ rm'.locals ∧ rm.cells ≤ rm'.cells ∧ rm.slots ≤ rm'.slots) : zMi l G B M sz y ws rm' av (fun r u => r = v ∧ zCO G x z L n mb sz M st u) 0 0 :=
  zMi.wide (zMi.reader sz h hr) ⟨Nat.le_refl _, Nat.le_refl _, Nat.le_refl _, Nat.le_refl _⟩ (fun r u q => ⟨q.1, by rw [q.2]; exact zCO_rf hR⟩) (Nat.le_refl _) (Nat.le_refl _)
theorem zrdl {l : Launch} {G : zG} {B : Nat} {M : zw_M} {y : MethodName} {ws : List Cond} {rm rm' : Room} {av : List Value} {v : Int64} {x z L n mb : Nat} {st : zSt} {qs : List Nat} {g : Nat → Int32} (sz : Nat) (hR : zCR G M x z L n mb st qs g) (h : Met l y ws rm (zp G B M av) (k2_QcV (.long v)) 0 0 (fun _ => False)) (hr : rm.frames ≤ rm'.frames ∧ rm.locals ≤ rm'.locals ∧ rm.cells ≤ rm'.cells ∧ rm.slots ≤ rm'.slots) : zMl l G B M sz y ws rm' av (fun r u => r = v ∧ zCO G x z L n mb sz M st u) 0 0 :=
  zMl.wide (zMl.reader sz h hr) ⟨Nat.le_refl _, Nat.le_refl _, Nat.le_refl _, Nat.le_refl _⟩ (fun r u q => ⟨q.1, by rw [q.2]; exact zCO_rf hR⟩) (Nat.le_refl _) (Nat.le_refl _)
theorem znlt {a b : Int32} (h : a < 0 ∨ b ≤ a) : a < 0 ∨ ¬ a < b := h.elim Or.inl (fun q => Or.inr (Int32.not_lt.mpr q))
theorem znle {a : Int32} {k : Nat} (hk : k + 1 < 2 ^ 31) (h : a < 0 ∨ nI (k + 1) ≤ a) : a < 0 ∨ ¬ a ≤ nI k := h.elim Or.inl (fun q => Or.inr (fun w => nI_ge (Nat.lt_succ_self k) hk (Int32.le_trans q w)))
set_option maxHeartbeats 4000000 in
set_option maxRecDepth 100000 in
theorem mk_make (l : Launch) (hflag : l.flags = flags0) (G : zG) (B x z L n mb xr zr : Nat) (st : zSt) (hn2 : 2 ≤ n) (hn : n ≤ 8) (hmb : mb ≤ 2000) (hok : zOK n st) (a d : Int32) : ∃ (k : Nat) (b : Int32) (st' : zSt), k ≤ 3 ∧ zOK n st' ∧ zHC l G B x z L n mb st st' yL_make (Cond.codeWith yL_make bL_make 5 (some .int) [(0, 10, 13, 13), (0, 10, 17, 15), (0, 10, 21, 17)]) [.ref x, .int a, .int d, .ref L] k b.toInt64 ∧ zHR l G B xr zr n mb st st' yR_make (Cond.code yR_make bR_make 3 (some .int)) [.ref xr, .int a, .int d] k b := by
  rcases zIn a n with ha | ⟨j, hj, rfl⟩
  · refine ⟨1, nI 0, st, by decide, hok, ?_, ?_⟩
    · intro M sz qs g f0 hR ho hzL hL; exact zMn.wide (tL_make1 l G B M sz x L _ hR.obj a d (tC_make1 l hflag G B M x z L n mb st qs g hn hR a ha d)) ⟨Nat.le_of_ble_eq_true rfl, Nat.le_of_ble_eq_true rfl, Nat.le_of_ble_eq_true rfl, Nat.le_of_ble_eq_true rfl⟩ (fun r u h => ⟨h.1, zLO_t hR ho h.2.1 h.2.2 (by decide)⟩) (Nat.le_refl _) (Nat.le_refl _)
    · intro M sz th pt Y hR; exact zMi.wide (kR_make1 l G B M sz xr zr n mb st th pt Y hn hR a ha d) ⟨Nat.le_of_ble_eq_true rfl, Nat.le_of_ble_eq_true rfl, Nat.le_of_ble_eq_true rfl, Nat.le_of_ble_eq_true rfl⟩ (fun r u h => h) (Nat.le_refl _) (Nat.le_refl _)
  · rcases zIn d 401 with hd0 | ⟨w, hw, rfl⟩
    · have hd1 : d < nI 1 ∨ ¬ d ≤ nI 400 := (znle (k := 400) (by decide) hd0).elim (fun q => Or.inl (Int32.lt_trans q (by decide))) Or.inr
      refine ⟨2, nI 0, st, by decide, hok, ?_, ?_⟩
      · intro M sz qs g f0 hR ho hzL hL; exact zMn.wide (tL_make2 l G B M sz x L _ hR.obj (nI j) d (tC_make2 l hflag G B M x z L n mb st qs g hn hR j hj d hd1)) ⟨Nat.le_of_ble_eq_true rfl, Nat.le_of_ble_eq_true rfl, Nat.le_of_ble_eq_true rfl, Nat.le_of_ble_eq_true rfl⟩ (fun r u h => ⟨h.1, zLO_t hR ho h.2.1 h.2.2 (by decide)⟩) (Nat.le_refl _) (Nat.le_refl _)
      · intro M sz th pt Y hR; exact zMi.wide (kR_make2 l G B M sz xr zr n mb st th pt Y hn hR j hj d hd1) ⟨Nat.le_of_ble_eq_true rfl, Nat.le_of_ble_eq_true rfl, Nat.le_of_ble_eq_true rfl, Nat.le_of_ble_eq_true rfl⟩ (fun r u h => h) (Nat.le_refl _) (Nat.le_refl _)
    · by_cases hw1 : w = 0
      · subst hw1
        have hd1 : nI 0 < nI 1 ∨ ¬ nI 0 ≤ nI 400 := Or.inl (by decide)
        refine ⟨2, nI 0, st, by decide, hok, ?_, ?_⟩
        · intro M sz qs g f0 hR ho hzL hL; exact zMn.wide (tL_make2 l G B M sz x L _ hR.obj (nI j) (nI 0) (tC_make2 l hflag G B M x z L n mb st qs g hn hR j hj (nI 0) hd1)) ⟨Nat.le_of_ble_eq_true rfl, Nat.le_of_ble_eq_true rfl, Nat.le_of_ble_eq_true rfl, Nat.le_of_ble_eq_true rfl⟩ (fun r u h => ⟨h.1, zLO_t hR ho h.2.1 h.2.2 (by decide)⟩) (Nat.le_refl _) (Nat.le_refl _)
        · intro M sz th pt Y hR; exact zMi.wide (kR_make2 l G B M sz xr zr n mb st th pt Y hn hR j hj (nI 0) hd1) ⟨Nat.le_of_ble_eq_true rfl, Nat.le_of_ble_eq_true rfl, Nat.le_of_ble_eq_true rfl, Nat.le_of_ble_eq_true rfl⟩ (fun r u h => h) (Nat.le_refl _) (Nat.le_refl _)
      · by_cases hd : st.dn j = true ∨ (st.wt j).length = 60
        · refine ⟨3, nI 0, st, by decide, hok, ?_, ?_⟩
          · intro M sz qs g f0 hR ho hzL hL; exact zMn.wide (tL_make3 l G B M sz x L _ hR.obj (nI j) (nI w) (tC_make3 l hflag G B M x z L n mb st qs g hn hR hok j w hj (by omega) (by omega) hd)) ⟨Nat.le_of_ble_eq_true rfl, Nat.le_of_ble_eq_true rfl, Nat.le_of_ble_eq_true rfl, Nat.le_of_ble_eq_true rfl⟩ (fun r u h => ⟨h.1, zLO_t hR ho h.2.1 h.2.2 (by decide)⟩) (Nat.le_refl _) (Nat.le_refl _)
          · intro M sz th pt Y hR; exact zMi.wide (kR_make3 l G B M sz xr zr n mb st th pt Y hn hR hok j w hj (by omega) (by omega) hd) ⟨Nat.le_of_ble_eq_true rfl, Nat.le_of_ble_eq_true rfl, Nat.le_of_ble_eq_true rfl, Nat.le_of_ble_eq_true rfl⟩ (fun r u h => h) (Nat.le_refl _) (Nat.le_refl _)
        · have hd1 : st.dn j = false := by
            cases h : st.dn j with
            | true => exact absurd (Or.inl h) hd
            | false => rfl
          have h60 : (st.wt j).length < 60 := by
            have := (hok.2.2.1 j hj).2
            rcases Nat.lt_or_ge (st.wt j).length 60 with q | q
            · exact q
            · exact absurd (Or.inr (by omega)) hd
          refine ⟨0, nI ((st.wt j).length + 1), zmake st j w, by decide, hok.make hn hj h60 (by omega) (by omega), ?_, ?_⟩
          · intro M sz qs g f0 hR ho hzL hL; exact zMn.wide (rL_make l G B M sz x L _ hR.obj f0 ho (nI j) (nI w) _ 2 50 0 0 (by decide) (by decide) (by decide) (by decide) (kC_make l G B M sz x z L n mb st qs g hn hR hok j w hj (by omega) (by omega) hd1 h60) (fun r u h => zCO_at h.2 hR.xz hzL hL)) ⟨Nat.le_of_ble_eq_true rfl, Nat.le_of_ble_eq_true rfl, Nat.le_of_ble_eq_true rfl, Nat.le_of_ble_eq_true rfl⟩ (fun r u h => by obtain ⟨h1, v, u1, ⟨h2, h3⟩, h4, h5⟩ := h; subst h2; exact ⟨h1, zLO_r h3 hR.xz hzL h4 h5⟩) (Nat.le_refl _) (Nat.le_refl _)
          · intro M sz th pt Y hR; exact zMi.wide (kR_make l G B M sz xr zr n mb st th pt Y hn hR hok j w hj (by omega) (by omega) hd1 h60) ⟨Nat.le_of_ble_eq_true rfl, Nat.le_of_ble_eq_true rfl, Nat.le_of_ble_eq_true rfl, Nat.le_of_ble_eq_true rfl⟩ (fun r u h => h) (Nat.le_refl _) (Nat.le_refl _)
set_option maxHeartbeats 4000000 in
set_option maxRecDepth 100000 in
theorem mk_tick (l : Launch) (hflag : l.flags = flags0) (G : zG) (B x z L n mb xr zr : Nat) (st : zSt) (hn2 : 2 ≤ n) (hn : n ≤ 8) (hmb : mb ≤ 2000) (hok : zOK n st) (a : Int32) : ∃ (k : Nat) (b : Int32) (st' : zSt), k ≤ 3 ∧ zOK n st' ∧ zHC l G B x z L n mb st st' yL_tick (Cond.codeWith yL_tick bL_tick 4 (some .int) [(0, 9, 12, 13), (0, 9, 15, 17)]) [.ref x, .int a, .ref L] k b.toInt64 ∧ zHR l G B xr zr n mb st st' yR_tick (Cond.code yR_tick bR_tick 6 (some .int)) [.ref xr, .int a] k b := by
  rcases zIn a n with ha | ⟨j, hj, rfl⟩
  · refine ⟨1, nI 0, st, by decide, hok, ?_, ?_⟩
    · intro M sz qs g f0 hR ho hzL hL; exact zMn.wide (tL_tick1 l G B M sz x L _ hR.obj a (tC_tick1 l hflag G B M x z L n mb st qs g hn hR a ha)) ⟨Nat.le_of_ble_eq_true rfl, Nat.le_of_ble_eq_true rfl, Nat.le_of_ble_eq_true rfl, Nat.le_of_ble_eq_true rfl⟩ (fun r u h => ⟨h.1, zLO_t hR ho h.2.1 h.2.2 (by decide)⟩) (Nat.le_refl _) (Nat.le_refl _)
    · intro M sz th pt Y hR; exact zMi.wide (kR_tick1 l G B M sz xr zr n mb st th pt Y hn hR a ha) ⟨Nat.le_of_ble_eq_true rfl, Nat.le_of_ble_eq_true rfl, Nat.le_of_ble_eq_true rfl, Nat.le_of_ble_eq_true rfl⟩ (fun r u h => h) (Nat.le_refl _) (Nat.le_refl _)
  · cases hd : st.dn j with
    | true =>
      refine ⟨2, nI 0, st, by decide, hok, ?_, ?_⟩
      · intro M sz qs g f0 hR ho hzL hL; exact zMn.wide (tL_tick2 l G B M sz x L _ hR.obj (nI j) (tC_tick2 l hflag G B M x z L n mb st qs g hn hR j hj hd)) ⟨Nat.le_of_ble_eq_true rfl, Nat.le_of_ble_eq_true rfl, Nat.le_of_ble_eq_true rfl, Nat.le_of_ble_eq_true rfl⟩ (fun r u h => ⟨h.1, zLO_t hR ho h.2.1 h.2.2 (by decide)⟩) (Nat.le_refl _) (Nat.le_refl _)
      · intro M sz th pt Y hR; exact zMi.wide (kR_tick2 l G B M sz xr zr n mb st th pt Y hn hR j hj hd) ⟨Nat.le_of_ble_eq_true rfl, Nat.le_of_ble_eq_true rfl, Nat.le_of_ble_eq_true rfl, Nat.le_of_ble_eq_true rfl⟩ (fun r u h => h) (Nat.le_refl _) (Nat.le_refl _)
    | false =>
      refine ⟨0, nI (n - 1), ztk n j (zck (st.lg j)) st n, by decide, zOK.tk (zck_ne hok hj) hok hj n (Nat.le_refl _), ?_, ?_⟩
      · intro M sz qs g f0 hR ho hzL hL; exact zMn.wide (rL_tick l G B M sz x L _ hR.obj f0 ho (nI j) _ 3 70 8 48 (by decide) (by decide) (by decide) (by decide) (kC_tick l G B M sz x z L n mb st qs g hn hR hL hok (by omega) j hj hd) (fun r u h => zCO_at h.2 hR.xz hzL hL)) ⟨Nat.le_of_ble_eq_true rfl, Nat.le_of_ble_eq_true rfl, Nat.le_of_ble_eq_true rfl, Nat.le_of_ble_eq_true rfl⟩ (fun r u h => by obtain ⟨h1, v, u1, ⟨h2, h3⟩, h4, h5⟩ := h; subst h2; exact ⟨h1, zLO_r h3 hR.xz hzL h4 h5⟩) (Nat.le_refl _) (Nat.le_refl _)
      · intro M sz th pt Y hR; exact zMi.wide (kR_tick l G B M sz xr zr n mb st th pt Y hn hR hok (by omega) j hj hd) ⟨Nat.le_of_ble_eq_true rfl, Nat.le_of_ble_eq_true rfl, Nat.le_of_ble_eq_true rfl, Nat.le_of_ble_eq_true rfl⟩ (fun r u h => h) (Nat.le_refl _) (Nat.le_refl _)
set_option maxHeartbeats 4000000 in
set_option maxRecDepth 100000 in
theorem mk_deliver (l : Launch) (hflag : l.flags = flags0) (G : zG) (B x z L n mb xr zr : Nat) (st : zSt) (hn2 : 2 ≤ n) (hn : n ≤ 8) (hmb : mb ≤ 2000) (hok : zOK n st) (a : Int32) : ∃ (k : Nat) (b : Int32) (st' : zSt), k ≤ 3 ∧ zOK n st' ∧ zHC l G B x z L n mb st st' yL_deliver (Cond.codeWith yL_deliver bL_deliver 4 (some .int) [(0, 9, 12, 13)]) [.ref x, .int a, .ref L] k b.toInt64 ∧ zHR l G B xr zr n mb st st' yR_deliver (Cond.code yR_deliver bR_deliver 9 (some .int)) [.ref xr, .int a] k b := by
  rcases zIn a st.fl.length with ha | ⟨j, hj, rfl⟩
  · refine ⟨1, nI 0, st, by decide, hok, ?_, ?_⟩
    · intro M sz qs g f0 hR ho hzL hL; exact zMn.wide (tL_deliver1 l G B M sz x L _ hR.obj a (tC_deliver l hflag G B M x z L n mb st qs g hn hR a ha)) ⟨Nat.le_of_ble_eq_true rfl, Nat.le_of_ble_eq_true rfl, Nat.le_of_ble_eq_true rfl, Nat.le_of_ble_eq_true rfl⟩ (fun r u h => ⟨h.1, zLO_t hR ho h.2.1 h.2.2 (by decide)⟩) (Nat.le_refl _) (Nat.le_refl _)
    · intro M sz th pt Y hR; exact zMi.wide (kR_deliver_out l G B M sz xr zr n mb st th pt Y hn hR a ha) ⟨Nat.le_of_ble_eq_true rfl, Nat.le_of_ble_eq_true rfl, Nat.le_of_ble_eq_true rfl, Nat.le_of_ble_eq_true rfl⟩ (fun r u h => h) (Nat.le_refl _) (Nat.le_refl _)
  · obtain ⟨mg, hmg⟩ : ∃ mg, st.fl[j]? = some mg := ⟨_, List.getElem?_eq_getElem hj⟩
    have hmo := hok.msg (List.mem_of_getElem? hmg)
    refine ⟨0, nI (zdeliver st j mg mb).2, (zdeliver st j mg mb).1, by decide, hok.deliver hn hmg, ?_, ?_⟩
    · intro M sz qs g f0 hR ho hzL hL; exact zMn.wide (rL_deliver l G B M sz x L _ hR.obj f0 ho (nI j) _ 4 140 960 3360 (by decide) (by decide) (by decide) (by decide) (kC_deliver l G B M sz x z L n mb st qs g hn hR hL hok hmb j mg hj hmg) (fun r u h => zCO_at h.2 hR.xz hzL hL)) ⟨Nat.le_of_ble_eq_true rfl, Nat.le_of_ble_eq_true rfl, Nat.le_of_ble_eq_true rfl, Nat.le_of_ble_eq_true rfl⟩ (fun r u h => by obtain ⟨h1, v, u1, ⟨h2, h3⟩, h4, h5⟩ := h; subst h2; exact ⟨h1, zLO_r h3 hR.xz hzL h4 h5⟩) (Nat.le_refl _) (Nat.le_refl _)
    · intro M sz th pt Y hR; exact zMi.wide (kR_deliver l G B M sz xr zr n mb st th pt Y hn hR hok hok.fl j hj mg hmg hmb) ⟨Nat.le_of_ble_eq_true rfl, Nat.le_of_ble_eq_true rfl, Nat.le_of_ble_eq_true rfl, Nat.le_of_ble_eq_true rfl⟩ (fun r u h => h) (Nat.le_refl _) (Nat.le_refl _)
set_option maxHeartbeats 4000000 in
set_option maxRecDepth 100000 in
theorem mk_twice (l : Launch) (hflag : l.flags = flags0) (G : zG) (B x z L n mb xr zr : Nat) (st : zSt) (hn2 : 2 ≤ n) (hn : n ≤ 8) (hmb : mb ≤ 2000) (hok : zOK n st) (a : Int32) : ∃ (k : Nat) (b : Int32) (st' : zSt), k ≤ 3 ∧ zOK n st' ∧ zHC l G B x z L n mb st st' yL_twice (Cond.codeWith yL_twice bL_twice 4 (some .int) [(0, 9, 12, 13)]) [.ref x, .int a, .ref L] k b.toInt64 ∧ zHR l G B xr zr n mb st st' yR_twice (Cond.code yR_twice bR_twice 4 (some .int)) [.ref xr, .int a] k b := by
  rcases zIn a st.fl.length with ha | ⟨j, hj, rfl⟩
  · refine ⟨1, nI 0, st, by decide, hok, ?_, ?_⟩
    · intro M sz qs g f0 hR ho hzL hL; exact zMn.wide (tL_twice1 l G B M sz x L _ hR.obj a (tC_twice l hflag G B M x z L n mb st qs g hn hR a ha)) ⟨Nat.le_of_ble_eq_true rfl, Nat.le_of_ble_eq_true rfl, Nat.le_of_ble_eq_true rfl, Nat.le_of_ble_eq_true rfl⟩ (fun r u h => ⟨h.1, zLO_t hR ho h.2.1 h.2.2 (by decide)⟩) (Nat.le_refl _) (Nat.le_refl _)
    · intro M sz th pt Y hR; exact zMi.wide (kR_twice_out l G B M sz xr zr n mb st th pt Y hn hR a ha) ⟨Nat.le_of_ble_eq_true rfl, Nat.le_of_ble_eq_true rfl, Nat.le_of_ble_eq_true rfl, Nat.le_of_ble_eq_true rfl⟩ (fun r u h => h) (Nat.le_refl _) (Nat.le_refl _)
  · obtain ⟨mg, hmg⟩ : ∃ mg, st.fl[j]? = some mg := ⟨_, List.getElem?_eq_getElem hj⟩
    have hmo := hok.msg (List.mem_of_getElem? hmg)
    refine ⟨0, nI st.se, zsend st mg.snd mg.rcv mg.byt mg.ck mg.chs, by decide, hok.twice hmg, ?_, ?_⟩
    · intro M sz qs g f0 hR ho hzL hL; exact zMn.wide (rL_twice l G B M sz x L _ hR.obj f0 ho (nI j) _ 2 40 1 6 (by decide) (by decide) (by decide) (by decide) (kC_twice l G B M sz x z L n mb st qs g hn hR hL j mg hj hmg hok.fl) (fun r u h => zCO_at h.2 hR.xz hzL hL)) ⟨Nat.le_of_ble_eq_true rfl, Nat.le_of_ble_eq_true rfl, Nat.le_of_ble_eq_true rfl, Nat.le_of_ble_eq_true rfl⟩ (fun r u h => by obtain ⟨h1, v, u1, ⟨h2, h3⟩, h4, h5⟩ := h; subst h2; exact ⟨h1, zLO_r h3 hR.xz hzL h4 h5⟩) (Nat.le_refl _) (Nat.le_refl _)
    · intro M sz th pt Y hR; exact zMi.wide (kR_twice l G B M sz xr zr n mb st th pt Y hn hR hok hok.fl j hj mg hmg) ⟨Nat.le_of_ble_eq_true rfl, Nat.le_of_ble_eq_true rfl, Nat.le_of_ble_eq_true rfl, Nat.le_of_ble_eq_true rfl⟩ (fun r u h => h) (Nat.le_refl _) (Nat.le_refl _)
set_option maxHeartbeats 4000000 in
set_option maxRecDepth 100000 in
theorem mk_message (l : Launch) (hflag : l.flags = flags0) (G : zG) (B x z L n mb xr zr : Nat) (st : zSt) (hn2 : 2 ≤ n) (hn : n ≤ 8) (hmb : mb ≤ 2000) (hok : zOK n st) (a d : Int32) : ∃ (k : Nat) (b : Int32) (st' : zSt), k ≤ 3 ∧ zOK n st' ∧ zHC l G B x z L n mb st st' yL_message (Cond.codeWith yL_message bL_message 5 (some .int) [(0, 10, 13, 13)]) [.ref x, .int a, .int d, .ref L] k b.toInt64 ∧ zHR l G B xr zr n mb st st' yR_message (Cond.code yR_message bR_message 4 (some .int)) [.ref xr, .int a, .int d] k b := by
  rcases zIn a st.fl.length with ha | ⟨j, hj, rfl⟩
  · refine ⟨1, 0, st, by decide, hok, ?_, ?_⟩
    · intro M sz qs g f0 hR ho hzL hL; exact zMn.wide (tL_message1 l G B M sz x L _ hR.obj a d (tC_message1 l hflag G B M x z L n mb st qs g hn hR a d ha)) ⟨Nat.le_of_ble_eq_true rfl, Nat.le_of_ble_eq_true rfl, Nat.le_of_ble_eq_true rfl, Nat.le_of_ble_eq_true rfl⟩ (fun r u h => ⟨h.1, zLO_t hR ho h.2.1 h.2.2 (by decide)⟩) (Nat.le_refl _) (Nat.le_refl _)
    · intro M sz th pt Y hR; exact zMi.wide (kR_message_out1 l G B M sz xr zr n mb st th pt Y hn hR a ha d) ⟨Nat.le_of_ble_eq_true rfl, Nat.le_of_ble_eq_true rfl, Nat.le_of_ble_eq_true rfl, Nat.le_of_ble_eq_true rfl⟩ (fun r u h => h) (Nat.le_refl _) (Nat.le_refl _)
  · obtain ⟨mg, hmg⟩ : ∃ mg, st.fl[j]? = some mg := ⟨_, List.getElem?_eq_getElem hj⟩
    have hmo := hok.msg (List.mem_of_getElem? hmg)
    rcases zIn d 5 with hd | ⟨w, hw, rfl⟩
    · have hd1 := znle (k := 4) (by decide) hd
      refine ⟨1, 0, st, by decide, hok, ?_, ?_⟩
      · intro M sz qs g f0 hR ho hzL hL; exact zMn.wide (tL_message1 l G B M sz x L _ hR.obj (nI j) d (tC_message2 l hflag G B M x z L n mb st qs g hn hR hok.fl j hj d hd1)) ⟨Nat.le_of_ble_eq_true rfl, Nat.le_of_ble_eq_true rfl, Nat.le_of_ble_eq_true rfl, Nat.le_of_ble_eq_true rfl⟩ (fun r u h => ⟨h.1, zLO_t hR ho h.2.1 h.2.2 (by decide)⟩) (Nat.le_refl _) (Nat.le_refl _)
      · intro M sz th pt Y hR; exact zMi.wide (kR_message_out2 l G B M sz xr zr n mb st th pt Y hn hR hok.fl j hj d hd1) ⟨Nat.le_of_ble_eq_true rfl, Nat.le_of_ble_eq_true rfl, Nat.le_of_ble_eq_true rfl, Nat.le_of_ble_eq_true rfl⟩ (fun r u h => h) (Nat.le_refl _) (Nat.le_refl _)
    · rcases (show w = 0 ∨ w = 1 ∨ w = 2 ∨ w = 3 ∨ w = 4 by omega) with rfl | rfl | rfl | rfl | rfl
      · refine ⟨0, nI mg.num, st, by decide, hok, ?_, ?_⟩
        · intro M sz qs g f0 hR ho hzL hL; obtain ⟨q, mg1, hq, hmg1, hmr⟩ := hR.at hj; cases hmg.symm.trans hmg1; obtain ⟨told, ch, hq0⟩ := hmr.ob hmo; exact zMn.wide (rL_message l G B M sz x L _ hR.obj f0 ho (nI j) (nI 0) _ 1 21 0 0 (by decide) (by decide) (by decide) (by decide) (zrd sz hR (rm' := { frames := 1, cells := 0, slots := 0, locals := 21 }) (kC_message_0 l G B M x n mb z st.fl.length st.se st.lo st.go st.pa hn hR.obj (fun i => qs[i]?) hR.fl hok.fl j hj q (nI mg.num) (nI mg.snd) (nI mg.rcv) (nI mg.byt) told ch hq0 hq) ⟨Nat.le_of_ble_eq_true rfl, Nat.le_of_ble_eq_true rfl, Nat.le_of_ble_eq_true rfl, Nat.le_of_ble_eq_true rfl⟩) (fun r u h => zCO_at h.2 hR.xz hzL hL)) ⟨Nat.le_of_ble_eq_true rfl, Nat.le_of_ble_eq_true rfl, Nat.le_of_ble_eq_true rfl, Nat.le_of_ble_eq_true rfl⟩ (fun r u h => by obtain ⟨h1, v, u1, ⟨h2, h3⟩, h4, h5⟩ := h; subst h2; exact ⟨h1, zLO_r h3 hR.xz hzL h4 h5⟩) (Nat.le_refl _) (Nat.le_refl _)
        · intro M sz th pt Y hR; exact zMi.wide (kR_message_0 l G B M sz xr zr n mb st th pt Y hn hR hok hok.fl j hj mg hmg) ⟨Nat.le_of_ble_eq_true rfl, Nat.le_of_ble_eq_true rfl, Nat.le_of_ble_eq_true rfl, Nat.le_of_ble_eq_true rfl⟩ (fun r u h => h) (Nat.le_refl _) (Nat.le_refl _)
      · refine ⟨0, nI mg.snd, st, by decide, hok, ?_, ?_⟩
        · intro M sz qs g f0 hR ho hzL hL; obtain ⟨q, mg1, hq, hmg1, hmr⟩ := hR.at hj; cases hmg.symm.trans hmg1; obtain ⟨told, ch, hq0⟩ := hmr.ob hmo; exact zMn.wide (rL_message l G B M sz x L _ hR.obj f0 ho (nI j) (nI 1) _ 1 21 0 0 (by decide) (by decide) (by decide) (by decide) (zrd sz hR (rm' := { frames := 1, cells := 0, slots := 0, locals := 21 }) (kC_message_1 l G B M x n mb z st.fl.length st.se st.lo st.go st.pa hn hR.obj (fun i => qs[i]?) hR.fl hok.fl j hj q (nI mg.num) (nI mg.snd) (nI mg.rcv) (nI mg.byt) told ch hq0 hq) ⟨Nat.le_of_ble_eq_true rfl, Nat.le_of_ble_eq_true rfl, Nat.le_of_ble_eq_true rfl, Nat.le_of_ble_eq_true rfl⟩) (fun r u h => zCO_at h.2 hR.xz hzL hL)) ⟨Nat.le_of_ble_eq_true rfl, Nat.le_of_ble_eq_true rfl, Nat.le_of_ble_eq_true rfl, Nat.le_of_ble_eq_true rfl⟩ (fun r u h => by obtain ⟨h1, v, u1, ⟨h2, h3⟩, h4, h5⟩ := h; subst h2; exact ⟨h1, zLO_r h3 hR.xz hzL h4 h5⟩) (Nat.le_refl _) (Nat.le_refl _)
        · intro M sz th pt Y hR; exact zMi.wide (kR_message_1 l G B M sz xr zr n mb st th pt Y hn hR hok hok.fl j hj mg hmg) ⟨Nat.le_of_ble_eq_true rfl, Nat.le_of_ble_eq_true rfl, Nat.le_of_ble_eq_true rfl, Nat.le_of_ble_eq_true rfl⟩ (fun r u h => h) (Nat.le_refl _) (Nat.le_refl _)
      · refine ⟨0, nI mg.rcv, st, by decide, hok, ?_, ?_⟩
        · intro M sz qs g f0 hR ho hzL hL; obtain ⟨q, mg1, hq, hmg1, hmr⟩ := hR.at hj; cases hmg.symm.trans hmg1; obtain ⟨told, ch, hq0⟩ := hmr.ob hmo; exact zMn.wide (rL_message l G B M sz x L _ hR.obj f0 ho (nI j) (nI 2) _ 1 21 0 0 (by decide) (by decide) (by decide) (by decide) (zrd sz hR (rm' := { frames := 1, cells := 0, slots := 0, locals := 21 }) (kC_message_2 l G B M x n mb z st.fl.length st.se st.lo st.go st.pa hn hR.obj (fun i => qs[i]?) hR.fl hok.fl j hj q (nI mg.num) (nI mg.snd) (nI mg.rcv) (nI mg.byt) told ch hq0 hq) ⟨Nat.le_of_ble_eq_true rfl, Nat.le_of_ble_eq_true rfl, Nat.le_of_ble_eq_true rfl, Nat.le_of_ble_eq_true rfl⟩) (fun r u h => zCO_at h.2 hR.xz hzL hL)) ⟨Nat.le_of_ble_eq_true rfl, Nat.le_of_ble_eq_true rfl, Nat.le_of_ble_eq_true rfl, Nat.le_of_ble_eq_true rfl⟩ (fun r u h => by obtain ⟨h1, v, u1, ⟨h2, h3⟩, h4, h5⟩ := h; subst h2; exact ⟨h1, zLO_r h3 hR.xz hzL h4 h5⟩) (Nat.le_refl _) (Nat.le_refl _)
        · intro M sz th pt Y hR; exact zMi.wide (kR_message_2 l G B M sz xr zr n mb st th pt Y hn hR hok hok.fl j hj mg hmg) ⟨Nat.le_of_ble_eq_true rfl, Nat.le_of_ble_eq_true rfl, Nat.le_of_ble_eq_true rfl, Nat.le_of_ble_eq_true rfl⟩ (fun r u h => h) (Nat.le_refl _) (Nat.le_refl _)
      · refine ⟨0, nI mg.byt, st, by decide, hok, ?_, ?_⟩
        · intro M sz qs g f0 hR ho hzL hL; obtain ⟨q, mg1, hq, hmg1, hmr⟩ := hR.at hj; cases hmg.symm.trans hmg1; obtain ⟨told, ch, hq0⟩ := hmr.ob hmo; exact zMn.wide (rL_message l G B M sz x L _ hR.obj f0 ho (nI j) (nI 3) _ 1 21 0 0 (by decide) (by decide) (by decide) (by decide) (zrd sz hR (rm' := { frames := 1, cells := 0, slots := 0, locals := 21 }) (kC_message_3 l G B M x n mb z st.fl.length st.se st.lo st.go st.pa hn hR.obj (fun i => qs[i]?) hR.fl hok.fl j hj q (nI mg.num) (nI mg.snd) (nI mg.rcv) (nI mg.byt) told ch hq0 hq) ⟨Nat.le_of_ble_eq_true rfl, Nat.le_of_ble_eq_true rfl, Nat.le_of_ble_eq_true rfl, Nat.le_of_ble_eq_true rfl⟩) (fun r u h => zCO_at h.2 hR.xz hzL hL)) ⟨Nat.le_of_ble_eq_true rfl, Nat.le_of_ble_eq_true rfl, Nat.le_of_ble_eq_true rfl, Nat.le_of_ble_eq_true rfl⟩ (fun r u h => by obtain ⟨h1, v, u1, ⟨h2, h3⟩, h4, h5⟩ := h; subst h2; exact ⟨h1, zLO_r h3 hR.xz hzL h4 h5⟩) (Nat.le_refl _) (Nat.le_refl _)
        · intro M sz th pt Y hR; exact zMi.wide (kR_message_3 l G B M sz xr zr n mb st th pt Y hn hR hok hok.fl j hj mg hmg) ⟨Nat.le_of_ble_eq_true rfl, Nat.le_of_ble_eq_true rfl, Nat.le_of_ble_eq_true rfl, Nat.le_of_ble_eq_true rfl⟩ (fun r u h => h) (Nat.le_refl _) (Nat.le_refl _)
      · refine ⟨0, zsz mg.ck mg.chs, st, by decide, hok, ?_, ?_⟩
        · intro M sz qs g f0 hR ho hzL hL
          obtain ⟨q, mg1, hq, hmg1, hmr⟩ := hR.at hj
          cases hmg.symm.trans hmg1
          rcases hmr.two hmo with ⟨k, hk, hk1, hq0⟩ | ⟨hk, h480, ch, f, hq0, hch, hf⟩
          · exact zMn.wide (rL_message l G B M sz x L _ hR.obj f0 ho (nI j) (nI 4) _ 1 21 0 0 (by decide) (by decide) (by decide) (by decide) (zrd sz hR (rm' := { frames := 1, cells := 0, slots := 0, locals := 21 }) (kC_message_4c l G B M x n mb z st.fl.length st.se st.lo st.go st.pa hn hR.obj (fun i => qs[i]?) hR.fl hok.fl j hj q (nI mg.num) (nI mg.snd) (nI mg.rcv) (nI mg.byt) k G.2.2 hq0 hq hk1) ⟨Nat.le_of_ble_eq_true rfl, Nat.le_of_ble_eq_true rfl, Nat.le_of_ble_eq_true rfl, Nat.le_of_ble_eq_true rfl⟩) (fun r u h => zCO_at h.2 hR.xz hzL hL)) ⟨Nat.le_of_ble_eq_true rfl, Nat.le_of_ble_eq_true rfl, Nat.le_of_ble_eq_true rfl, Nat.le_of_ble_eq_true rfl⟩ (fun r u h => by obtain ⟨h1, v, u1, ⟨h2, h3⟩, h4, h5⟩ := h; subst h2; rw [hk]; exact ⟨h1, zLO_r h3 hR.xz hzL h4 h5⟩) (Nat.le_refl _) (Nat.le_refl _)
          · exact zMn.wide (rL_message l G B M sz x L _ hR.obj f0 ho (nI j) (nI 4) _ 1 21 0 0 (by decide) (by decide) (by decide) (by decide) (zrd sz hR (rm' := { frames := 1, cells := 0, slots := 0, locals := 21 }) (kC_message_4p l G B M x n mb z st.fl.length st.se st.lo st.go st.pa hn hR.obj (fun i => qs[i]?) hR.fl hok.fl j hj q (nI mg.num) (nI mg.snd) (nI mg.rcv) (nI mg.byt) (-1) ch hq0 hq rfl mg.chs.length f hch h480) ⟨Nat.le_of_ble_eq_true rfl, Nat.le_of_ble_eq_true rfl, Nat.le_of_ble_eq_true rfl, Nat.le_of_ble_eq_true rfl⟩) (fun r u h => zCO_at h.2 hR.xz hzL hL)) ⟨Nat.le_of_ble_eq_true rfl, Nat.le_of_ble_eq_true rfl, Nat.le_of_ble_eq_true rfl, Nat.le_of_ble_eq_true rfl⟩ (fun r u h => by obtain ⟨h1, v, u1, ⟨h2, h3⟩, h4, h5⟩ := h; subst h2; rw [hk]; exact ⟨h1, zLO_r h3 hR.xz hzL h4 h5⟩) (Nat.le_refl _) (Nat.le_refl _)
        · intro M sz th pt Y hR; exact zMi.wide (kR_message_4 l G B M sz xr zr n mb st th pt Y hn hR hok hok.fl j hj mg hmg) ⟨Nat.le_of_ble_eq_true rfl, Nat.le_of_ble_eq_true rfl, Nat.le_of_ble_eq_true rfl, Nat.le_of_ble_eq_true rfl⟩ (fun r u h => h) (Nat.le_refl _) (Nat.le_refl _)
set_option maxHeartbeats 4000000 in
set_option maxRecDepth 100000 in
theorem mk_clock (l : Launch) (hflag : l.flags = flags0) (G : zG) (B x z L n mb xr zr : Nat) (st : zSt) (hn2 : 2 ≤ n) (hn : n ≤ 8) (hmb : mb ≤ 2000) (hok : zOK n st) (a : Int32) : ∃ (k : Nat) (b : Int64) (st' : zSt), k ≤ 3 ∧ zOK n st' ∧ zHC l G B x z L n mb st st' yL_clock (Cond.codeWith yL_clock bL_clock 4 (some .int) [(0, 8, 11, 13)]) [.ref x, .int a, .ref L] k b ∧ zHRl l G B xr zr n mb st st' yR_clock (Cond.code yR_clock bR_clock 2 (some .long)) [.ref xr, .int a] k b := by
  rcases zIn a n with ha | ⟨j, hj, rfl⟩
  · refine ⟨1, 0, st, by decide, hok, ?_, ?_⟩
    · intro M sz qs g f0 hR ho hzL hL; exact zMn.wide (tL_clock1 l G B M sz x L _ hR.obj a (tC_clock l hflag G B M x z L n mb st qs g hn hR a ha)) ⟨Nat.le_of_ble_eq_true rfl, Nat.le_of_ble_eq_true rfl, Nat.le_of_ble_eq_true rfl, Nat.le_of_ble_eq_true rfl⟩ (fun r u h => ⟨h.1, zLO_t hR ho h.2.1 h.2.2 (by decide)⟩) (Nat.le_refl _) (Nat.le_refl _)
    · intro M sz th pt Y hR; exact zMl.wide (kR_clock_out l G B M sz xr zr n mb st th pt Y hn hR a ha) ⟨Nat.le_of_ble_eq_true rfl, Nat.le_of_ble_eq_true rfl, Nat.le_of_ble_eq_true rfl, Nat.le_of_ble_eq_true rfl⟩ (fun r u h => h) (Nat.le_refl _) (Nat.le_refl _)
  · refine ⟨0, zck (st.lg j), st, by decide, hok, ?_, ?_⟩
    · intro M sz qs g f0 hR ho hzL hL; exact zMn.wide (rL_clock l G B M sz x L _ hR.obj f0 ho (nI j) _ 1 21 0 0 (by decide) (by decide) (by decide) (by decide) (zrdl sz hR (rm' := { frames := 1, cells := 0, slots := 0, locals := 21 }) (kC_clock_in l G B M x n mb z st.fl.length st.se st.lo st.go st.pa hn hR.obj (fun i => zck (st.lg i)) hR.ck j hj) ⟨Nat.le_of_ble_eq_true rfl, Nat.le_of_ble_eq_true rfl, Nat.le_of_ble_eq_true rfl, Nat.le_of_ble_eq_true rfl⟩) (fun r u h => zCO_at h.2 hR.xz hzL hL)) ⟨Nat.le_of_ble_eq_true rfl, Nat.le_of_ble_eq_true rfl, Nat.le_of_ble_eq_true rfl, Nat.le_of_ble_eq_true rfl⟩ (fun r u h => by obtain ⟨h1, v, u1, ⟨h2, h3⟩, h4, h5⟩ := h; subst h2; exact ⟨h1, zLO_r h3 hR.xz hzL h4 h5⟩) (Nat.le_refl _) (Nat.le_refl _)
    · intro M sz th pt Y hR; exact zMl.wide (kR_clock_in l G B M sz xr zr n mb st th pt Y hn hR hok j hj) ⟨Nat.le_of_ble_eq_true rfl, Nat.le_of_ble_eq_true rfl, Nat.le_of_ble_eq_true rfl, Nat.le_of_ble_eq_true rfl⟩ (fun r u h => h) (Nat.le_refl _) (Nat.le_refl _)
set_option maxHeartbeats 4000000 in
set_option maxRecDepth 100000 in
theorem mk_lacks (l : Launch) (hflag : l.flags = flags0) (G : zG) (B x z L n mb xr zr : Nat) (st : zSt) (hn2 : 2 ≤ n) (hn : n ≤ 8) (hmb : mb ≤ 2000) (hok : zOK n st) (a : Int32) : ∃ (k : Nat) (b : Int32) (st' : zSt), k ≤ 3 ∧ zOK n st' ∧ zHC l G B x z L n mb st st' yL_lacks (Cond.codeWith yL_lacks bL_lacks 4 (some .int) [(0, 9, 12, 13)]) [.ref x, .int a, .ref L] k b.toInt64 ∧ zHR l G B xr zr n mb st st' yR_lacks (Cond.code yR_lacks bR_lacks 2 (some .int)) [.ref xr, .int a] k b := by
  rcases zIn a n with ha | ⟨j, hj, rfl⟩
  · refine ⟨1, 0, st, by decide, hok, ?_, ?_⟩
    · intro M sz qs g f0 hR ho hzL hL; exact zMn.wide (tL_lacks1 l G B M sz x L _ hR.obj a (tC_lacks l hflag G B M x z L n mb st qs g hn hR a ha)) ⟨Nat.le_of_ble_eq_true rfl, Nat.le_of_ble_eq_true rfl, Nat.le_of_ble_eq_true rfl, Nat.le_of_ble_eq_true rfl⟩ (fun r u h => ⟨h.1, zLO_t hR ho h.2.1 h.2.2 (by decide)⟩) (Nat.le_refl _) (Nat.le_refl _)
    · intro M sz th pt Y hR; exact zMi.wide (kR_lacks_out l G B M sz xr zr n mb st th pt Y hn hR a ha) ⟨Nat.le_of_ble_eq_true rfl, Nat.le_of_ble_eq_true rfl, Nat.le_of_ble_eq_true rfl, Nat.le_of_ble_eq_true rfl⟩ (fun r u h => h) (Nat.le_refl _) (Nat.le_refl _)
  · have hle := hok.all hj
    have htt := hok.tot hn
    have hle1 : (st.lg j).length ≤ zsum (fun a => zb (zck (st.lg a)) a) n := by rw [htt]; exact hle
    refine ⟨0, nI (zsum (fun a => (st.wt a).length) n - (st.lg j).length), st, by decide, hok, ?_, ?_⟩
    · intro M sz qs g f0 hR ho hzL hL; exact zMn.wide (rL_lacks l G B M sz x L _ hR.obj f0 ho (nI j) _ 3 66 0 0 (by decide) (by decide) (by decide) (by decide) (zrd sz hR (rm' := { frames := 3, cells := 0, slots := 0, locals := 66 }) (kC_lacks_in l G B M x n mb z st.fl.length st.se st.lo st.go st.pa hn hR.obj (fun i => zck (st.lg i)) hR.ck (fun i => (st.lg i).length) hR.lz j hj hle1) ⟨Nat.le_of_ble_eq_true rfl, Nat.le_of_ble_eq_true rfl, Nat.le_of_ble_eq_true rfl, Nat.le_of_ble_eq_true rfl⟩) (fun r u h => zCO_at h.2 hR.xz hzL hL)) ⟨Nat.le_of_ble_eq_true rfl, Nat.le_of_ble_eq_true rfl, Nat.le_of_ble_eq_true rfl, Nat.le_of_ble_eq_true rfl⟩ (fun r u h => by obtain ⟨h1, v, u1, ⟨h2, h3⟩, h4, h5⟩ := h; rw [htt] at h2; subst h2; exact ⟨h1, zLO_r h3 hR.xz hzL h4 h5⟩) (Nat.le_refl _) (Nat.le_refl _)
    · intro M sz th pt Y hR; exact zMi.wide (kR_lacks_in l G B M sz xr zr n mb st th pt Y hn hR j hj hle) ⟨Nat.le_of_ble_eq_true rfl, Nat.le_of_ble_eq_true rfl, Nat.le_of_ble_eq_true rfl, Nat.le_of_ble_eq_true rfl⟩ (fun r u h => h) (Nat.le_refl _) (Nat.le_refl _)
set_option maxHeartbeats 4000000 in
set_option maxRecDepth 100000 in
theorem mk_lose (l : Launch) (hflag : l.flags = flags0) (G : zG) (B x z L n mb xr zr : Nat) (st : zSt) (hn2 : 2 ≤ n) (hn : n ≤ 8) (hmb : mb ≤ 2000) (hok : zOK n st) (a : Int32) : ∃ (b : Int32) (st' : zSt), zOK n st' ∧ zHD l G B x z L n mb st st' yC_lose (Cond.code yC_lose bC_lose 2 (some .boolean)) [.ref x, .int a] b ∧ zHR l G B xr zr n mb st st' yR_lose (Cond.code yR_lose bR_lose 2 (some .boolean)) [.ref xr, .int a] 0 b := by
  rcases zIn a st.fl.length with ha | ⟨j, hj, rfl⟩
  · refine ⟨nI 0, st, hok, ?_, ?_⟩
    · intro M sz qs g hR; exact zMi.wide (kC_lose_out l G B M sz x z L n mb st qs g hn hR a ha) ⟨Nat.le_of_ble_eq_true rfl, Nat.le_of_ble_eq_true rfl, Nat.le_of_ble_eq_true rfl, Nat.le_of_ble_eq_true rfl⟩ (fun r u h => ⟨h.1, by rw [h.2]; exact zCO_rf hR⟩) (Nat.le_refl _) (Nat.le_refl _)
    · intro M sz th pt Y hR; exact zMi.wide (kR_lose_out l G B M sz xr zr n mb st th pt Y hn hR a ha) ⟨Nat.le_of_ble_eq_true rfl, Nat.le_of_ble_eq_true rfl, Nat.le_of_ble_eq_true rfl, Nat.le_of_ble_eq_true rfl⟩ (fun r u h => h) (Nat.le_refl _) (Nat.le_refl _)
  · refine ⟨nI 1, zlost (zdrop st j), hok.lose j, ?_, ?_⟩
    · intro M sz qs g hR; exact zMi.wide (kC_lose_in l G B M sz x z L n mb st qs g hn hR hok.fl j hj) ⟨Nat.le_of_ble_eq_true rfl, Nat.le_of_ble_eq_true rfl, Nat.le_of_ble_eq_true rfl, Nat.le_of_ble_eq_true rfl⟩ (fun r u h => h) (Nat.le_refl _) (Nat.le_refl _)
    · intro M sz th pt Y hR; exact zMi.wide (kR_lose_in l G B M sz xr zr n mb st th pt Y hn hR hok.fl j hj) ⟨Nat.le_of_ble_eq_true rfl, Nat.le_of_ble_eq_true rfl, Nat.le_of_ble_eq_true rfl, Nat.le_of_ble_eq_true rfl⟩ (fun r u h => h) (Nat.le_refl _) (Nat.le_refl _)
set_option maxHeartbeats 4000000 in
set_option maxRecDepth 100000 in
theorem mk_up (l : Launch) (hflag : l.flags = flags0) (G : zG) (B x z L n mb xr zr : Nat) (st : zSt) (hn2 : 2 ≤ n) (hn : n ≤ 8) (hmb : mb ≤ 2000) (hok : zOK n st) (a : Int32) (bo : Bool) : ∃ (b : Int32) (st' : zSt), zOK n st' ∧ zHD l G B x z L n mb st st' yC_up (Cond.code yC_up bC_up 3 (some .boolean)) [.ref x, .int a, .int (nI bo.toNat)] b ∧ zHR l G B xr zr n mb st st' yR_up (Cond.code yR_up bR_up 3 (some .boolean)) [.ref xr, .int a, .int (nI bo.toNat)] 0 b := by
  rcases zIn a n with ha | ⟨j, hj, rfl⟩
  · refine ⟨nI 0, st, hok, ?_, ?_⟩
    · intro M sz qs g hR; exact zMi.wide (kC_up_out l G B M sz x z L n mb st qs g hn hR a (nI bo.toNat) ha) ⟨Nat.le_of_ble_eq_true rfl, Nat.le_of_ble_eq_true rfl, Nat.le_of_ble_eq_true rfl, Nat.le_of_ble_eq_true rfl⟩ (fun r u h => ⟨h.1, by rw [h.2]; exact zCO_rf hR⟩) (Nat.le_refl _) (Nat.le_refl _)
    · intro M sz th pt Y hR; exact zMi.wide (kR_up_out l G B M sz xr zr n mb st th pt Y hn hR a ha (nI bo.toNat)) ⟨Nat.le_of_ble_eq_true rfl, Nat.le_of_ble_eq_true rfl, Nat.le_of_ble_eq_true rfl, Nat.le_of_ble_eq_true rfl⟩ (fun r u h => h) (Nat.le_refl _) (Nat.le_refl _)
  · by_cases hd : st.dn j = bo
    · refine ⟨nI 1, zup st j (!bo), hok.up j _, ?_, ?_⟩
      · intro M sz qs g hR; exact zMi.wide (kC_up_yes l G B M sz x z L n mb st qs g hn hR j hj bo hd) ⟨Nat.le_of_ble_eq_true rfl, Nat.le_of_ble_eq_true rfl, Nat.le_of_ble_eq_true rfl, Nat.le_of_ble_eq_true rfl⟩ (fun r u h => h) (Nat.le_refl _) (Nat.le_refl _)
      · intro M sz th pt Y hR; exact zMi.wide (kR_up_yes l G B M sz xr zr n mb st th pt Y hn hR j hj bo hd) ⟨Nat.le_of_ble_eq_true rfl, Nat.le_of_ble_eq_true rfl, Nat.le_of_ble_eq_true rfl, Nat.le_of_ble_eq_true rfl⟩ (fun r u h => h) (Nat.le_refl _) (Nat.le_refl _)
    · refine ⟨nI 0, st, hok, ?_, ?_⟩
      · intro M sz qs g hR; exact zMi.wide (kC_up_no l G B M sz x z L n mb st qs g hn hR j hj bo hd) ⟨Nat.le_of_ble_eq_true rfl, Nat.le_of_ble_eq_true rfl, Nat.le_of_ble_eq_true rfl, Nat.le_of_ble_eq_true rfl⟩ (fun r u h => ⟨h.1, by rw [h.2]; exact zCO_rf hR⟩) (Nat.le_refl _) (Nat.le_refl _)
      · intro M sz th pt Y hR; exact zMi.wide (kR_up_no l G B M sz xr zr n mb st th pt Y hn hR j hj bo hd) ⟨Nat.le_of_ble_eq_true rfl, Nat.le_of_ble_eq_true rfl, Nat.le_of_ble_eq_true rfl, Nat.le_of_ble_eq_true rfl⟩ (fun r u h => h) (Nat.le_refl _) (Nat.le_refl _)
set_option maxHeartbeats 4000000 in
set_option maxRecDepth 100000 in
theorem mk_inside (l : Launch) (hflag : l.flags = flags0) (G : zG) (B x z L n mb xr zr : Nat) (st : zSt) (hn2 : 2 ≤ n) (hn : n ≤ 8) (hmb : mb ≤ 2000) (hok : zOK n st) (a d : Int32) : ∃ (b : Int32) (st' : zSt), zOK n st' ∧ zHD l G B x z L n mb st st' yC_inside (Cond.code yC_inside bC_inside 4 (some .int)) [.ref x, .int a, .int d] b ∧ zHR l G B xr zr n mb st st' yR_inside (Cond.code yR_inside bR_inside 3 (some .int)) [.ref xr, .int a, .int d] 0 b := by
  rcases zIn a st.fl.length with ha | ⟨j, hj, rfl⟩
  · refine ⟨-1, st, hok, ?_, ?_⟩
    · intro M sz qs g hR; exact zrd sz hR (kC_inside_out1 l G B M x n mb z st.fl.length st.se st.lo st.go st.pa hn hR.obj a d ha) ⟨Nat.le_of_ble_eq_true rfl, Nat.le_of_ble_eq_true rfl, Nat.le_of_ble_eq_true rfl, Nat.le_of_ble_eq_true rfl⟩
    · intro M sz th pt Y hR; exact zMi.wide (kR_inside_out1 l G B M sz xr zr n mb st th pt Y hn hR a ha d) ⟨Nat.le_of_ble_eq_true rfl, Nat.le_of_ble_eq_true rfl, Nat.le_of_ble_eq_true rfl, Nat.le_of_ble_eq_true rfl⟩ (fun r u h => h) (Nat.le_refl _) (Nat.le_refl _)
  · obtain ⟨mg, hmg⟩ : ∃ mg, st.fl[j]? = some mg := ⟨_, List.getElem?_eq_getElem hj⟩
    have hmo := hok.msg (List.mem_of_getElem? hmg)
    cases hk : mg.ck with
    | some k =>
      have hd : d < 0 ∨ ¬ d < zsz mg.ck mg.chs := by
        by_cases h0 : d < 0
        · exact Or.inl h0
        · refine Or.inr (fun w => h0 (Int32.lt_trans w ?_))
          rw [hk]
          show (-1 : Int32) < 0
          decide
      refine ⟨-1, st, hok, ?_, ?_⟩
      · intro M sz qs g hR
        obtain ⟨q, mg1, hq, hmg1, hmr⟩ := hR.at hj
        cases hmg.symm.trans hmg1
        rcases hmr.two hmo with ⟨k1, hk1, -, hq0⟩ | ⟨hk1, -⟩
        · exact zrd sz hR (kC_inside_clock l G B M x n mb z st.fl.length st.se st.lo st.go st.pa hn hR.obj (fun i => qs[i]?) hR.fl hok.fl j hj q (nI mg.num) (nI mg.snd) (nI mg.rcv) (nI mg.byt) k1 G.2.2 hq0 hq rfl d) ⟨Nat.le_of_ble_eq_true rfl, Nat.le_of_ble_eq_true rfl, Nat.le_of_ble_eq_true rfl, Nat.le_of_ble_eq_true rfl⟩
        · rw [hk] at hk1; cases hk1
      · intro M sz th pt Y hR; exact zMi.wide (kR_inside_out2 l G B M sz xr zr n mb st th pt Y hn hR hok.fl j hj mg hmg d hd) ⟨Nat.le_of_ble_eq_true rfl, Nat.le_of_ble_eq_true rfl, Nat.le_of_ble_eq_true rfl, Nat.le_of_ble_eq_true rfl⟩ (fun r u h => h) (Nat.le_refl _) (Nat.le_refl _)
    | none =>
      have hl4 : mg.chs.length ≤ 480 := hok.chs mg (List.mem_of_getElem? hmg)
      rcases zIn d mg.chs.length with hd | ⟨k, hkl, rfl⟩
      · have hd1 := znlt hd
        refine ⟨-1, st, hok, ?_, ?_⟩
        · intro M sz qs g hR
          obtain ⟨q, mg1, hq, hmg1, hmr⟩ := hR.at hj
          cases hmg.symm.trans hmg1
          rcases hmr.two hmo with ⟨k1, hk1, -⟩ | ⟨-, h480, ch, f, hq0, hch, hf⟩
          · rw [hk] at hk1; cases hk1
          · exact zrd sz hR (kC_inside_out2 l G B M x n mb z st.fl.length st.se st.lo st.go st.pa hn hR.obj (fun i => qs[i]?) hR.fl hok.fl j hj q (nI mg.num) (nI mg.snd) (nI mg.rcv) (nI mg.byt) (-1) ch hq0 hq mg.chs.length f hch h480 d hd1) ⟨Nat.le_of_ble_eq_true rfl, Nat.le_of_ble_eq_true rfl, Nat.le_of_ble_eq_true rfl, Nat.le_of_ble_eq_true rfl⟩
        · intro M sz th pt Y hR; exact zMi.wide (kR_inside_out2 l G B M sz xr zr n mb st th pt Y hn hR hok.fl j hj mg hmg d (by rw [hk]; exact hd1)) ⟨Nat.le_of_ble_eq_true rfl, Nat.le_of_ble_eq_true rfl, Nat.le_of_ble_eq_true rfl, Nat.le_of_ble_eq_true rfl⟩ (fun r u h => h) (Nat.le_refl _) (Nat.le_refl _)
      · refine ⟨nI (mg.chs.getD k 0), st, hok, ?_, ?_⟩
        · intro M sz qs g hR
          obtain ⟨q, mg1, hq, hmg1, hmr⟩ := hR.at hj
          cases hmg.symm.trans hmg1
          rcases hmr.two hmo with ⟨k1, hk1, -⟩ | ⟨-, h480, ch, f, hq0, hch, hf⟩
          · rw [hk] at hk1; cases hk1
          · rw [← hf k hkl]
            exact zrd sz hR (kC_inside_in l G B M x n mb z st.fl.length st.se st.lo st.go st.pa hn hR.obj (fun i => qs[i]?) hR.fl hok.fl j hj q (nI mg.num) (nI mg.snd) (nI mg.rcv) (nI mg.byt) (-1) ch hq0 hq mg.chs.length f hch h480 k hkl) ⟨Nat.le_of_ble_eq_true rfl, Nat.le_of_ble_eq_true rfl, Nat.le_of_ble_eq_true rfl, Nat.le_of_ble_eq_true rfl⟩
        · intro M sz th pt Y hR; exact zMi.wide (kR_inside_in l G B M sz xr zr n mb st th pt Y hn hR hok.fl j hj mg hmg hk hl4 k hkl) ⟨Nat.le_of_ble_eq_true rfl, Nat.le_of_ble_eq_true rfl, Nat.le_of_ble_eq_true rfl, Nat.le_of_ble_eq_true rfl⟩ (fun r u h => h) (Nat.le_refl _) (Nat.le_refl _)
set_option maxHeartbeats 4000000 in
set_option maxRecDepth 100000 in
theorem mk_told (l : Launch) (hflag : l.flags = flags0) (G : zG) (B x z L n mb xr zr : Nat) (st : zSt) (hn2 : 2 ≤ n) (hn : n ≤ 8) (hmb : mb ≤ 2000) (hok : zOK n st) (a : Int32) : ∃ (b : Int64) (st' : zSt), zOK n st' ∧ zHDl l G B x z L n mb st st' yC_told (Cond.code yC_told bC_told 3 (some .long)) [.ref x, .int a] b ∧ zHRl l G B xr zr n mb st st' yR_told (Cond.code yR_told bR_told 2 (some .long)) [.ref xr, .int a] 0 b := by
  rcases zIn a st.fl.length with ha | ⟨j, hj, rfl⟩
  · refine ⟨-1, st, hok, ?_, ?_⟩
    · intro M sz qs g hR; exact zrdl sz hR (kC_told_out l G B M x n mb z st.fl.length st.se st.lo st.go st.pa hn hR.obj a ha) ⟨Nat.le_of_ble_eq_true rfl, Nat.le_of_ble_eq_true rfl, Nat.le_of_ble_eq_true rfl, Nat.le_of_ble_eq_true rfl⟩
    · intro M sz th pt Y hR; exact zMl.wide (kR_told_out l G B M sz xr zr n mb st th pt Y hn hR a ha) ⟨Nat.le_of_ble_eq_true rfl, Nat.le_of_ble_eq_true rfl, Nat.le_of_ble_eq_true rfl, Nat.le_of_ble_eq_true rfl⟩ (fun r u h => h) (Nat.le_refl _) (Nat.le_refl _)
  · obtain ⟨mg, hmg⟩ : ∃ mg, st.fl[j]? = some mg := ⟨_, List.getElem?_eq_getElem hj⟩
    have hmo := hok.msg (List.mem_of_getElem? hmg)
    cases hk : mg.ck with
    | some k =>
      refine ⟨k, st, hok, ?_, ?_⟩
      · intro M sz qs g hR
        obtain ⟨q, mg1, hq, hmg1, hmr⟩ := hR.at hj
        cases hmg.symm.trans hmg1
        rcases hmr.two hmo with ⟨k1, hk1, -, hq0⟩ | ⟨hk1, -⟩
        · cases Option.some.inj (hk.symm.trans hk1)
          exact zrdl sz hR (kC_told_in l G B M x n mb z st.fl.length st.se st.lo st.go st.pa hn hR.obj (fun i => qs[i]?) hR.fl hok.fl j hj q (nI mg.num) (nI mg.snd) (nI mg.rcv) (nI mg.byt) k G.2.2 hq0 hq) ⟨Nat.le_of_ble_eq_true rfl, Nat.le_of_ble_eq_true rfl, Nat.le_of_ble_eq_true rfl, Nat.le_of_ble_eq_true rfl⟩
        · rw [hk] at hk1; cases hk1
      · intro M sz th pt Y hR; exact zMl.wide (kR_told_clock l G B M sz xr zr n mb st th pt Y hn hR hok.fl j hj mg hmg k hk) ⟨Nat.le_of_ble_eq_true rfl, Nat.le_of_ble_eq_true rfl, Nat.le_of_ble_eq_true rfl, Nat.le_of_ble_eq_true rfl⟩ (fun r u h => h) (Nat.le_refl _) (Nat.le_refl _)
    | none =>
      have hl4 : mg.chs.length ≤ 480 := hok.chs mg (List.mem_of_getElem? hmg)
      refine ⟨-1, st, hok, ?_, ?_⟩
      · intro M sz qs g hR
        obtain ⟨q, mg1, hq, hmg1, hmr⟩ := hR.at hj
        cases hmg.symm.trans hmg1
        rcases hmr.two hmo with ⟨k1, hk1, -⟩ | ⟨-, h480, ch, f, hq0, hch, hf⟩
        · rw [hk] at hk1; cases hk1
        · exact zrdl sz hR (kC_told_in l G B M x n mb z st.fl.length st.se st.lo st.go st.pa hn hR.obj (fun i => qs[i]?) hR.fl hok.fl j hj q (nI mg.num) (nI mg.snd) (nI mg.rcv) (nI mg.byt) (-1) ch hq0 hq) ⟨Nat.le_of_ble_eq_true rfl, Nat.le_of_ble_eq_true rfl, Nat.le_of_ble_eq_true rfl, Nat.le_of_ble_eq_true rfl⟩
      · intro M sz th pt Y hR; exact zMl.wide (kR_told_part l G B M sz xr zr n mb st th pt Y hn hR hok.fl j hj mg hmg hk hl4) ⟨Nat.le_of_ble_eq_true rfl, Nat.le_of_ble_eq_true rfl, Nat.le_of_ble_eq_true rfl, Nat.le_of_ble_eq_true rfl⟩ (fun r u h => h) (Nat.le_refl _) (Nat.le_refl _)
set_option maxHeartbeats 4000000 in
set_option maxRecDepth 100000 in
theorem mk_log (l : Launch) (hflag : l.flags = flags0) (G : zG) (B x z L n mb xr zr : Nat) (st : zSt) (hn2 : 2 ≤ n) (hn : n ≤ 8) (hmb : mb ≤ 2000) (hok : zOK n st) (a d : Int32) : ∃ (b : Int32) (st' : zSt), zOK n st' ∧ zHD l G B x z L n mb st st' yC_log (Cond.code yC_log bC_log 3 (some .int)) [.ref x, .int a, .int d] b ∧ zHR l G B xr zr n mb st st' yR_log (Cond.code yR_log bR_log 3 (some .int)) [.ref xr, .int a, .int d] 0 b := by
  rcases zIn a n with ha | ⟨j, hj, rfl⟩
  · refine ⟨-1, st, hok, ?_, ?_⟩
    · intro M sz qs g hR; exact zrd sz hR (kC_log_out1 l G B M x n mb z st.fl.length st.se st.lo st.go st.pa hn hR.obj a d ha) ⟨Nat.le_of_ble_eq_true rfl, Nat.le_of_ble_eq_true rfl, Nat.le_of_ble_eq_true rfl, Nat.le_of_ble_eq_true rfl⟩
    · intro M sz th pt Y hR; exact zMi.wide (kR_log_out1 l G B M sz xr zr n mb st th pt Y hn hR a ha d) ⟨Nat.le_of_ble_eq_true rfl, Nat.le_of_ble_eq_true rfl, Nat.le_of_ble_eq_true rfl, Nat.le_of_ble_eq_true rfl⟩ (fun r u h => h) (Nat.le_refl _) (Nat.le_refl _)
  · have hln := hok.len hj
    rcases zIn d (st.lg j).length with hd | ⟨k, hk, rfl⟩
    · have hd1 := znlt hd
      refine ⟨-1, st, hok, ?_, ?_⟩
      · intro M sz qs g hR; exact zrd sz hR (kC_log_out2 l G B M x n mb z st.fl.length st.se st.lo st.go st.pa hn hR.obj (fun i => (st.lg i).length) hR.lz j d hj hd1) ⟨Nat.le_of_ble_eq_true rfl, Nat.le_of_ble_eq_true rfl, Nat.le_of_ble_eq_true rfl, Nat.le_of_ble_eq_true rfl⟩
      · intro M sz th pt Y hR; exact zMi.wide (kR_log_out2 l G B M sz xr zr n mb st th pt Y hn hR j d hj hd1) ⟨Nat.le_of_ble_eq_true rfl, Nat.le_of_ble_eq_true rfl, Nat.le_of_ble_eq_true rfl, Nat.le_of_ble_eq_true rfl⟩ (fun r u h => h) (Nat.le_refl _) (Nat.le_refl _)
    · refine ⟨nI ((st.lg j).getD k 0), st, hok, ?_, ?_⟩
      · intro M sz qs g hR; exact zrd sz hR (kC_log_in l G B M x n mb z st.fl.length st.se st.lo st.go st.pa hn hR.obj (fun i => (st.lg i).length) hR.lz hR.lgs (fun k => nI ((st.lg j).getD k 0)) j k hj (hR.lg j hj) hk hln) ⟨Nat.le_of_ble_eq_true rfl, Nat.le_of_ble_eq_true rfl, Nat.le_of_ble_eq_true rfl, Nat.le_of_ble_eq_true rfl⟩
      · intro M sz th pt Y hR; exact zMi.wide (kR_log_in l G B M sz xr zr n mb st th pt Y hn hR j k hj hk (by omega)) ⟨Nat.le_of_ble_eq_true rfl, Nat.le_of_ble_eq_true rfl, Nat.le_of_ble_eq_true rfl, Nat.le_of_ble_eq_true rfl⟩ (fun r u h => h) (Nat.le_refl _) (Nat.le_refl _)
set_option maxHeartbeats 4000000 in
set_option maxRecDepth 100000 in
theorem mk_weight (l : Launch) (hflag : l.flags = flags0) (G : zG) (B x z L n mb xr zr : Nat) (st : zSt) (hn2 : 2 ≤ n) (hn : n ≤ 8) (hmb : mb ≤ 2000) (hok : zOK n st) (a d : Int32) : ∃ (b : Int32) (st' : zSt), zOK n st' ∧ zHD l G B x z L n mb st st' yC_weight (Cond.code yC_weight bC_weight 3 (some .int)) [.ref x, .int a, .int d] b ∧ zHR l G B xr zr n mb st st' yR_weight (Cond.code yR_weight bR_weight 3 (some .int)) [.ref xr, .int a, .int d] 0 b := by
  rcases zIn a n with ha | ⟨j, hj, rfl⟩
  · refine ⟨-1, st, hok, ?_, ?_⟩
    · intro M sz qs g hR; exact zrd sz hR (kC_weight_out1 l G B M x n mb z st.fl.length st.se st.lo st.go st.pa hn hR.obj a d ha) ⟨Nat.le_of_ble_eq_true rfl, Nat.le_of_ble_eq_true rfl, Nat.le_of_ble_eq_true rfl, Nat.le_of_ble_eq_true rfl⟩
    · intro M sz th pt Y hR; exact zMi.wide (kR_weight_out1 l G B M sz xr zr n mb st th pt Y hn hR a ha d) ⟨Nat.le_of_ble_eq_true rfl, Nat.le_of_ble_eq_true rfl, Nat.le_of_ble_eq_true rfl, Nat.le_of_ble_eq_true rfl⟩ (fun r u h => h) (Nat.le_refl _) (Nat.le_refl _)
  · have h60 := (hok.2.2.1 j hj).2
    have hown := hok.own hn hj
    by_cases hd : d < nI 1 ∨ ¬ d ≤ nI (st.wt j).length
    · have hd1 : d < nI 1 ∨ ¬ d ≤ nI (zb ((fun i => zck (st.lg i)) j) j) := by show _ ∨ ¬ d ≤ nI (zb (zck (st.lg j)) j); rw [hown]; exact hd
      refine ⟨-1, st, hok, ?_, ?_⟩
      · intro M sz qs g hR; exact zrd sz hR (kC_weight_out2 l G B M x n mb z st.fl.length st.se st.lo st.go st.pa hn hR.obj (fun i => zck (st.lg i)) hR.ck j d hj hd1) ⟨Nat.le_of_ble_eq_true rfl, Nat.le_of_ble_eq_true rfl, Nat.le_of_ble_eq_true rfl, Nat.le_of_ble_eq_true rfl⟩
      · intro M sz th pt Y hR; exact zMi.wide (kR_weight_out2 l G B M sz xr zr n mb st th pt Y hn hR j d hj hd) ⟨Nat.le_of_ble_eq_true rfl, Nat.le_of_ble_eq_true rfl, Nat.le_of_ble_eq_true rfl, Nat.le_of_ble_eq_true rfl⟩ (fun r u h => h) (Nat.le_refl _) (Nat.le_refl _)
    · rcases zIn d ((st.wt j).length + 1) with hd2 | ⟨k, hk, rfl⟩
      · exact absurd ((znle (by omega) hd2).elim (fun q => Or.inl (Int32.lt_trans q (by decide))) Or.inr) hd
      · have hk1 : 1 ≤ k := by
          rcases Nat.eq_zero_or_pos k with q | q
          · subst q; exact absurd (Or.inl (by decide)) hd
          · exact q
        have hk2 : k ≤ zb ((fun i => zck (st.lg i)) j) j := by show k ≤ zb (zck (st.lg j)) j; rw [hown]; omega
        refine ⟨nI ((st.wt j).getD (k - 1) 0), st, hok, ?_, ?_⟩
        · intro M sz qs g hR; exact zrd sz hR (kC_weight_in l G B M x n mb z st.fl.length st.se st.lo st.go st.pa hn hR.obj (fun i => zck (st.lg i)) hR.ck hR.wts (fun k => nI ((st.wt j).getD k 0)) j k hj (hR.wt j hj) hk1 hk2 (by omega)) ⟨Nat.le_of_ble_eq_true rfl, Nat.le_of_ble_eq_true rfl, Nat.le_of_ble_eq_true rfl, Nat.le_of_ble_eq_true rfl⟩
        · intro M sz th pt Y hR; exact zMi.wide (kR_weight_in l G B M sz xr zr n mb st th pt Y hn hR j k hj hk1 (by omega) h60) ⟨Nat.le_of_ble_eq_true rfl, Nat.le_of_ble_eq_true rfl, Nat.le_of_ble_eq_true rfl, Nat.le_of_ble_eq_true rfl⟩ (fun r u h => h) (Nat.le_refl _) (Nat.le_refl _)
set_option maxHeartbeats 4000000 in
set_option maxRecDepth 100000 in
theorem mk_look (l : Launch) (hflag : l.flags = flags0) (G : zG) (B x z L n mb xr zr : Nat) (st : zSt) (hn2 : 2 ≤ n) (hn : n ≤ 8) (hmb : mb ≤ 2000) (hok : zOK n st) (a : Int32) : ∃ (b : Int32) (st' : zSt), zOK n st' ∧ zHD l G B x z L n mb st st' yC_look (Cond.code yC_look bC_look 2 (some .int)) [.ref x, .int a] b ∧ zHR l G B xr zr n mb st st' yR_look (Cond.code yR_look bR_look 5 (some .int)) [.ref xr, .int a] 0 b := by
  rcases zIn a 9 with ha | ⟨w, hw, rfl⟩
  · refine ⟨-1, st, hok, ?_, ?_⟩
    · intro M sz qs g hR; exact zrd sz hR (kC_look_out l G B M x n mb z st.fl.length st.se st.lo st.go st.pa hn hR.obj a ha) ⟨Nat.le_of_ble_eq_true rfl, Nat.le_of_ble_eq_true rfl, Nat.le_of_ble_eq_true rfl, Nat.le_of_ble_eq_true rfl⟩
    · intro M sz th pt Y hR; exact zMi.wide (kR_look_out l G B M sz xr zr n mb st th pt Y hn hR hok a ha) ⟨Nat.le_of_ble_eq_true rfl, Nat.le_of_ble_eq_true rfl, Nat.le_of_ble_eq_true rfl, Nat.le_of_ble_eq_true rfl⟩ (fun r u h => h) (Nat.le_refl _) (Nat.le_refl _)
  · rcases (show w = 0 ∨ w = 1 ∨ w = 2 ∨ w = 3 ∨ w = 4 ∨ w = 5 ∨ w = 6 ∨ w = 7 ∨ w = 8 by omega) with rfl | rfl | rfl | rfl | rfl | rfl | rfl | rfl | rfl
    · refine ⟨nI n, st, hok, ?_, ?_⟩
      · intro M sz qs g hR; exact zrd sz hR (kC_look_0 l G B M x n mb z st.fl.length st.se st.lo st.go st.pa hn hR.obj) ⟨Nat.le_of_ble_eq_true rfl, Nat.le_of_ble_eq_true rfl, Nat.le_of_ble_eq_true rfl, Nat.le_of_ble_eq_true rfl⟩
      · intro M sz th pt Y hR; exact zMi.wide (kR_look_0 l G B M sz xr zr n mb st th pt Y hn hR hok) ⟨Nat.le_of_ble_eq_true rfl, Nat.le_of_ble_eq_true rfl, Nat.le_of_ble_eq_true rfl, Nat.le_of_ble_eq_true rfl⟩ (fun r u h => h) (Nat.le_refl _) (Nat.le_refl _)
    · refine ⟨nI mb, st, hok, ?_, ?_⟩
      · intro M sz qs g hR; exact zrd sz hR (kC_look_1 l G B M x n mb z st.fl.length st.se st.lo st.go st.pa hn hR.obj) ⟨Nat.le_of_ble_eq_true rfl, Nat.le_of_ble_eq_true rfl, Nat.le_of_ble_eq_true rfl, Nat.le_of_ble_eq_true rfl⟩
      · intro M sz th pt Y hR; exact zMi.wide (kR_look_1 l G B M sz xr zr n mb st th pt Y hn hR hok) ⟨Nat.le_of_ble_eq_true rfl, Nat.le_of_ble_eq_true rfl, Nat.le_of_ble_eq_true rfl, Nat.le_of_ble_eq_true rfl⟩ (fun r u h => h) (Nat.le_refl _) (Nat.le_refl _)
    · refine ⟨nI st.fl.length, st, hok, ?_, ?_⟩
      · intro M sz qs g hR; exact zrd sz hR (kC_look_2 l G B M x n mb z st.fl.length st.se st.lo st.go st.pa hn hR.obj) ⟨Nat.le_of_ble_eq_true rfl, Nat.le_of_ble_eq_true rfl, Nat.le_of_ble_eq_true rfl, Nat.le_of_ble_eq_true rfl⟩
      · intro M sz th pt Y hR; exact zMi.wide (kR_look_2 l G B M sz xr zr n mb st th pt Y hn hR hok) ⟨Nat.le_of_ble_eq_true rfl, Nat.le_of_ble_eq_true rfl, Nat.le_of_ble_eq_true rfl, Nat.le_of_ble_eq_true rfl⟩ (fun r u h => h) (Nat.le_refl _) (Nat.le_refl _)
    · refine ⟨nI st.se, st, hok, ?_, ?_⟩
      · intro M sz qs g hR; exact zrd sz hR (kC_look_3 l G B M x n mb z st.fl.length st.se st.lo st.go st.pa hn hR.obj) ⟨Nat.le_of_ble_eq_true rfl, Nat.le_of_ble_eq_true rfl, Nat.le_of_ble_eq_true rfl, Nat.le_of_ble_eq_true rfl⟩
      · intro M sz th pt Y hR; exact zMi.wide (kR_look_3 l G B M sz xr zr n mb st th pt Y hn hR hok) ⟨Nat.le_of_ble_eq_true rfl, Nat.le_of_ble_eq_true rfl, Nat.le_of_ble_eq_true rfl, Nat.le_of_ble_eq_true rfl⟩ (fun r u h => h) (Nat.le_refl _) (Nat.le_refl _)
    · refine ⟨nI st.lo, st, hok, ?_, ?_⟩
      · intro M sz qs g hR; exact zrd sz hR (kC_look_4 l G B M x n mb z st.fl.length st.se st.lo st.go st.pa hn hR.obj) ⟨Nat.le_of_ble_eq_true rfl, Nat.le_of_ble_eq_true rfl, Nat.le_of_ble_eq_true rfl, Nat.le_of_ble_eq_true rfl⟩
      · intro M sz th pt Y hR; exact zMi.wide (kR_look_4 l G B M sz xr zr n mb st th pt Y hn hR hok) ⟨Nat.le_of_ble_eq_true rfl, Nat.le_of_ble_eq_true rfl, Nat.le_of_ble_eq_true rfl, Nat.le_of_ble_eq_true rfl⟩ (fun r u h => h) (Nat.le_refl _) (Nat.le_refl _)
    · refine ⟨nI st.go, st, hok, ?_, ?_⟩
      · intro M sz qs g hR; exact zrd sz hR (kC_look_5 l G B M x n mb z st.fl.length st.se st.lo st.go st.pa hn hR.obj) ⟨Nat.le_of_ble_eq_true rfl, Nat.le_of_ble_eq_true rfl, Nat.le_of_ble_eq_true rfl, Nat.le_of_ble_eq_true rfl⟩
      · intro M sz th pt Y hR; exact zMi.wide (kR_look_5 l G B M sz xr zr n mb st th pt Y hn hR hok) ⟨Nat.le_of_ble_eq_true rfl, Nat.le_of_ble_eq_true rfl, Nat.le_of_ble_eq_true rfl, Nat.le_of_ble_eq_true rfl⟩ (fun r u h => h) (Nat.le_refl _) (Nat.le_refl _)
    · refine ⟨nI st.pa, st, hok, ?_, ?_⟩
      · intro M sz qs g hR; exact zrd sz hR (kC_look_6 l G B M x n mb z st.fl.length st.se st.lo st.go st.pa hn hR.obj) ⟨Nat.le_of_ble_eq_true rfl, Nat.le_of_ble_eq_true rfl, Nat.le_of_ble_eq_true rfl, Nat.le_of_ble_eq_true rfl⟩
      · intro M sz th pt Y hR; exact zMi.wide (kR_look_6 l G B M sz xr zr n mb st th pt Y hn hR hok) ⟨Nat.le_of_ble_eq_true rfl, Nat.le_of_ble_eq_true rfl, Nat.le_of_ble_eq_true rfl, Nat.le_of_ble_eq_true rfl⟩ (fun r u h => h) (Nat.le_refl _) (Nat.le_refl _)
    · have htt := hok.tot hn
      have htl := zR_tot hok
      refine ⟨nI (zsum (fun r => if (st.lg r).length = zsum (fun a => (st.wt a).length) n then 1 else 0) n), st, hok, ?_, ?_⟩
      · intro M sz qs g hR; exact zrd sz hR (kC_look_7 l G B M x n mb z st.fl.length st.se st.lo st.go st.pa hn hR.obj (fun i => zck (st.lg i)) hR.ck (fun i => (st.lg i).length) hR.lz (zsum (fun a => (st.wt a).length) n) htt.symm (by omega) (fun i hi => by have := hok.len hi; show (st.lg i).length < _; omega)) ⟨Nat.le_of_ble_eq_true rfl, Nat.le_of_ble_eq_true rfl, Nat.le_of_ble_eq_true rfl, Nat.le_of_ble_eq_true rfl⟩
      · intro M sz th pt Y hR; exact zMi.wide (kR_look_7 l G B M sz xr zr n mb st th pt Y hn hR hok) ⟨Nat.le_of_ble_eq_true rfl, Nat.le_of_ble_eq_true rfl, Nat.le_of_ble_eq_true rfl, Nat.le_of_ble_eq_true rfl⟩ (fun r u h => h) (Nat.le_refl _) (Nat.le_refl _)
    · refine ⟨nI (zsum (zby st) st.fl.length), st, hok, ?_, ?_⟩
      · intro M sz qs g hR; exact zrd sz hR (kC_look_8 l G B M x n mb z st.fl.length st.se st.lo st.go st.pa hn hR.obj (fun i => qs[i]?) hR.fl hok.fl (zby st) (fun i hi => by obtain ⟨q, mg, hq, hmg, hmr⟩ := hR.at hi; obtain ⟨told, ch, hq0⟩ := hmr.ob (hok.msg (List.mem_of_getElem? hmg)); exact ⟨q, nI mg.num, nI mg.snd, nI mg.rcv, told, ch, hq, by rw [show zby st i = mg.byt by unfold zby; rw [hmg]]; exact hq0⟩)) ⟨Nat.le_of_ble_eq_true rfl, Nat.le_of_ble_eq_true rfl, Nat.le_of_ble_eq_true rfl, Nat.le_of_ble_eq_true rfl⟩
      · intro M sz th pt Y hR; exact zMi.wide (kR_look_8 l G B M sz xr zr n mb st th pt Y hn hR hok) ⟨Nat.le_of_ble_eq_true rfl, Nat.le_of_ble_eq_true rfl, Nat.le_of_ble_eq_true rfl, Nat.le_of_ble_eq_true rfl⟩ (fun r u h => h) (Nat.le_refl _) (Nat.le_refl _)
