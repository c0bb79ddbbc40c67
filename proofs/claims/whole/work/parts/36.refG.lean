/-! THE REFERENCE: its constructor -/
theorem zid_u (i : Nat) : upd (fun a9 => nI (if a9 < i then a9 else 0)) i (nI i) = fun a9 => nI (if a9 < i + 1 then a9 else 0) := by
  funext q
  unfold upd
  by_cases h : q = i
  · subst h; rw [if_pos rfl, if_pos (by omega)]
  · rw [if_neg h]
    show nI (if q < i then q else 0) = _
    by_cases h2 : q < i
    · rw [if_pos h2, if_pos (by omega)]
    · rw [if_neg h2, if_neg (by omega)]
/-- cells one behind the other, from z on -/
def zw_seg (M : zw_M) (z : Nat) (es : List va_E) : zw_M := fun q => if z ≤ q ∧ q < z + es.length then es[q - z]? else M q
theorem zw_seg0 (M : zw_M) (z : Nat) : zw_seg M z [] = M := by
  funext q
  exact if_neg (by show ¬ (z ≤ q ∧ q < z + 0); omega)
theorem zw_segn (M : zw_M) {z x a : Nat} (es : List va_E) (o e : va_E) (hx : x < z) (ha : a = z + es.length) : zw_u (zw_u (zw_seg M z es) x o) a e = zw_u (zw_seg M z (es ++ [e])) x o := by
  subst ha
  funext q
  unfold zw_u zw_seg
  have hl : (es ++ [e]).length = es.length + 1 := by rw [List.length_append]; rfl
  by_cases h1 : q = z + es.length
  · subst h1
    rw [if_pos rfl, if_neg (by omega), if_pos (by omega), Nat.add_sub_cancel_left]
    simp
  · rw [if_neg h1]
    by_cases h2 : q = x
    · rw [if_pos h2, if_pos h2]
    · rw [if_neg h2, if_neg h2]
      by_cases h3 : z ≤ q ∧ q < z + es.length
      · rw [if_pos h3, if_pos ⟨h3.1, by omega⟩, List.getElem?_append_left (by omega)]
      · rw [if_neg h3, if_neg (by omega)]
theorem zw_segi (M : zw_M) {z x k : Nat} {es : List va_E} {o e : va_E} (hx : x < z) (h : es[k]? = some e) : zw_u (zw_seg M z es) x o (z + k) = some e := by
  have hk : k < es.length := (List.getElem?_eq_some_iff.mp h).1
  rw [zw_un _ _ (by omega)]
  unfold zw_seg
  rw [if_pos ⟨by omega, by omega⟩, Nat.add_sub_cancel_left]
  exact h
theorem zw_sego (M : zw_M) {z x q : Nat} (es : List va_E) (o : va_E) (h : q ≠ x) (hq : q < z) : zw_u (zw_seg M z es) x o q = M q := by
  rw [zw_un _ _ h]
  exact if_neg (by omega)
theorem zl_join {Wg : JFrame → Prop} (g1 : JFrame) {g0 : JFrame} (h1 : Wg g1) (h2 : Wg g1 → Wg g0) : Wg g0 := h2 h1
def zYi : zRX := zRX.mk (fun q => if q < 120 then q else 0) (fun _ => nI 0) (fun _ => nI 0) (fun _ => nI 0) (fun _ => nI 0) (fun _ => 0) (fun _ => nI 0) (fun _ => nI 0)
set_option maxHeartbeats 4000000 in
set_option maxRecDepth 100000 in
theorem kR_init (l : Launch) (G : zG) (B : Nat) (M : zw_M) (sz : Nat) (x : Nat) (a b : Int32) (hx0 : M x = some (.inr (2, [.int 0, .int 0, .int 0, .null, .null, .null, .null, .null, .null, .int 0, .null, .null, .null, .null, .null, .null, .int 0, .int 0, .int 0, .int 0, .null, .int 0]))) : Met l yR_init (Cond.code yR_init bR_init 4 none :: zT) { frames := 1, cells := 13, slots := 63200, locals := 40 } (zq G B M sz [.ref x, .int a, .int b]) (va_Qv (fun (u : zw_M × Nat) => u.2 = sz + 13 ∧ zRR G u.1 x sz (zcl 2 8 a) (zcl 16 2000 b) z0 0 0 zYi ∧ ∀ q : Nat, q ≠ x → q < sz → u.1 q = M q) (zr_o G.1 zCl B) (zw_A B)) (13) (63200) (zw_A B) := by
  refine Met.ofW (cc := bR_init) (maxL := 4) (ret := none) (by decide) rfl ?_
  intro p e s m args below meth c s₁ B0 hml hv
  obtain ⟨rfl, hE, hH, hsz⟩ := hv
  have hx := B0.exec
  have hb := B0.bytes
  have hr := B0.returns
  have hlocks := B0.notSynchronized
  have hz : ∀ w ∈ zT, w.before _ s = true := fun w h => atoms_spec (ws := Cond.code yR_init bR_init 4 none :: zT) B0.pre w (List.mem_cons_of_mem _ h)
  have hown : s.vm.findClass RR = some m.cls := findClass_of_methodNamed B0.named
  have hK := hE.1
  have hl := lv_entry ([.ref x, .int a, .int b]) (n := 4) (Nat.le_of_ble_eq_true rfl)
  rw [lg_entry_eq]
  generalize (lg_sl ([.ref x, .int a, .int b]) ++ List.replicate (4 - (lg_sl ([.ref x, .int a, .int b])).length) Slot.unset).toArray = ls at hl ⊢
  have hl : lv_has ls 4 [(0, .ref x), (1, .int a), (2, .int b)] := hl
  have hS : va_S (zw_A B) s.heap s.heap [] := va_S.rf
  have hin : meth.name = "<init>" := (name_of_methodNamed B0.named B0.method).1
  have hlt0 : ∀ (a : Nat) (e : va_E), M a = some e → a < sz := fun a e h => by rw [← hsz]; exact hH.lt h
  obtain ⟨n, hnd⟩ : ∃ q, q = zcl 2 8 a := ⟨_, rfl⟩
  have hnc := zcl_in (lo := 2) (hi := 8) (by decide) (by decide) a
  obtain ⟨mb, hmbd⟩ : ∃ q, q = zcl 16 2000 b := ⟨_, rfl⟩
  have hmbc := zcl_in (lo := 16) (hi := 2000) (by decide) (by decide) b
  rw [← hnd, ← hmbd]
  rw [← hnd] at hnc
  rw [← hmbd] at hmbc
  have hxs := hlt0 x _ hx0
  have hH : zw_H G.1 zCl B (zw_u (zw_seg M sz []) x (.inr (2, [.int 0, .int 0, .int 0, .null, .null, .null, .null, .null, .null, .int 0, .null, .null, .null, .null, .null, .null, .int 0, .int 0, .int 0, .int 0, .null, .int 0]))) s.heap := by rw [zw_seg0, zw_ui hx0]; exact hH
  refine lv_aload_n hx hb dR_init_0 rfl (lv_at hl 0 rfl) ?_
  refine W.objInit hx hb hown (hz _ zm_386) (hz _ zm_19) (hz _ zm_20) rfl (by rw [hml]; exact hl.1) rfl dR_init_1 (Nat.le_of_ble_eq_true rfl) (Nat.le_of_ble_eq_true rfl) ?_
  refine zl_join (Wg := fun g => W p l e _ s m _ below meth c _ _ _ _ _ g) (F0 m 4 ls []) ?_ (fun hj => hj)
  refine lv_aload_n hx hb dR_init_4 rfl (lv_at hl 0 rfl) ?_
  refine lv_bipush (v := nI 8) hx hb dR_init_5 (by decide) ?_
  refine zw_newa (atype := .boolean) (cA := G.2.1 2) (a0 := (8, .inl (fun _ => nI 0))) hx hb (hz _ zm_74) hK hH hS (Nat.le_trans hE.2.1 hS.1) 2 rfl rfl rfl (by decide) (Nat.le_of_ble_eq_true rfl) (Nat.le_of_ble_eq_true rfl) dR_init_7 (fun H1 hH hz1 hS => ?_)
  rw [hsz] at hH hz1 ⊢
  replace hsz : H1.size = sz + 1 := hz1
  clear hz1
  rw [zw_segn M _ _ _ hxs (by rfl)] at hH
  have hH : zw_H G.1 zCl B (zw_u (zw_seg M sz [(.inl (G.2.1 2, 8, .inl (fun _ => nI 0)))]) x (.inr (2, [.int 0, .int 0, .int 0, .null, .null, .null, .null, .null, .null, .int 0, .null, .null, .null, .null, .null, .null, .int 0, .int 0, .int 0, .int 0, .null, .int 0]))) H1 := hH
  refine zw_putF (D := G.1) (ci := 2) (v := .ref sz) (ty := (.array .boolean)) (C := RR) (T := TR) (N := 22) hx hb hz iR tR tR_ok nR hown hK hH hS (zw_us _ _ _) rfl 3 (by decide) (hz _ zm_391) (fun _ h9 => h9) rfl hin rfl (by decide +kernel) rfl rfl (Nat.le_of_ble_eq_true rfl) dR_init_9 (fun H2 L2 hH hz1 hS => ?_)
  replace hsz := hz1.trans hsz
  clear hz1
  rw [zw_uu] at hH
  have hH : zw_H G.1 zCl B (zw_u (zw_seg M sz [(.inl (G.2.1 2, 8, .inl (fun _ => nI 0)))]) x (.inr (2, [.int 0, .int 0, .int 0, .ref sz, .null, .null, .null, .null, .null, .int 0, .null, .null, .null, .null, .null, .null, .int 0, .int 0, .int 0, .int 0, .null, .int 0]))) H2 := hH
  refine lv_aload_n hx hb dR_init_12 rfl (lv_at hl 0 rfl) ?_
  refine lv_bipush (v := nI 8) hx hb dR_init_13 (by decide) ?_
  refine zw_newa (atype := .int) (cA := G.2.1 0) (a0 := (8, .inl (fun _ => nI 0))) hx hb (hz _ zm_76) hK hH hS (Nat.le_trans hE.2.1 hS.1) 0 rfl rfl rfl (by decide) (Nat.le_of_ble_eq_true rfl) (Nat.le_of_ble_eq_true rfl) dR_init_15 (fun H3 hH hz1 hS => ?_)
  rw [hsz] at hH hz1 ⊢
  replace hsz : H3.size = sz + 2 := hz1
  clear hz1
  rw [zw_segn M _ _ _ hxs (by rfl)] at hH
  have hH : zw_H G.1 zCl B (zw_u (zw_seg M sz [(.inl (G.2.1 2, 8, .inl (fun _ => nI 0))), (.inl (G.2.1 0, 8, .inl (fun _ => nI 0)))]) x (.inr (2, [.int 0, .int 0, .int 0, .ref sz, .null, .null, .null, .null, .null, .int 0, .null, .null, .null, .null, .null, .null, .int 0, .int 0, .int 0, .int 0, .null, .int 0]))) H3 := hH
  refine zw_putF (D := G.1) (ci := 2) (v := .ref (sz + 1)) (ty := (.array .int)) (C := RR) (T := TR) (N := 22) hx hb hz iR tR tR_ok nR hown hK hH hS (zw_us _ _ _) rfl 4 (by decide) (hz _ zm_392) (fun _ h9 => h9) rfl hin rfl (by decide +kernel) rfl rfl (Nat.le_of_ble_eq_true rfl) dR_init_17 (fun H4 L4 hH hz1 hS => ?_)
  replace hsz := hz1.trans hsz
  clear hz1
  rw [zw_uu] at hH
  have hH : zw_H G.1 zCl B (zw_u (zw_seg M sz [(.inl (G.2.1 2, 8, .inl (fun _ => nI 0))), (.inl (G.2.1 0, 8, .inl (fun _ => nI 0)))]) x (.inr (2, [.int 0, .int 0, .int 0, .ref sz, .ref (sz + 1), .null, .null, .null, .null, .int 0, .null, .null, .null, .null, .null, .null, .int 0, .int 0, .int 0, .int 0, .null, .int 0]))) H4 := hH
  refine lv_aload_n hx hb dR_init_20 rfl (lv_at hl 0 rfl) ?_
  refine lv_sipush (v := nI 488) hx hb dR_init_21 (by decide) ?_
  refine zw_newa (atype := .int) (cA := G.2.1 0) (a0 := (488, .inl (fun _ => nI 0))) hx hb (hz _ zm_76) hK hH hS (Nat.le_trans hE.2.1 hS.1) 0 rfl rfl rfl (by decide) (Nat.le_of_ble_eq_true rfl) (Nat.le_of_ble_eq_true rfl) dR_init_24 (fun H5 hH hz1 hS => ?_)
  rw [hsz] at hH hz1 ⊢
  replace hsz : H5.size = sz + 3 := hz1
  clear hz1
  rw [zw_segn M _ _ _ hxs (by rfl)] at hH
  have hH : zw_H G.1 zCl B (zw_u (zw_seg M sz [(.inl (G.2.1 2, 8, .inl (fun _ => nI 0))), (.inl (G.2.1 0, 8, .inl (fun _ => nI 0))), (.inl (G.2.1 0, 488, .inl (fun _ => nI 0)))]) x (.inr (2, [.int 0, .int 0, .int 0, .ref sz, .ref (sz + 1), .null, .null, .null, .null, .int 0, .null, .null, .null, .null, .null, .null, .int 0, .int 0, .int 0, .int 0, .null, .int 0]))) H5 := hH
  refine zw_putF (D := G.1) (ci := 2) (v := .ref (sz + 2)) (ty := (.array .int)) (C := RR) (T := TR) (N := 22) hx hb hz iR tR tR_ok nR hown hK hH hS (zw_us _ _ _) rfl 5 (by decide) (hz _ zm_393) (fun _ h9 => h9) rfl hin rfl (by decide +kernel) rfl rfl (Nat.le_of_ble_eq_true rfl) dR_init_26 (fun H6 L6 hH hz1 hS => ?_)
  replace hsz := hz1.trans hsz
  clear hz1
  rw [zw_uu] at hH
  have hH : zw_H G.1 zCl B (zw_u (zw_seg M sz [(.inl (G.2.1 2, 8, .inl (fun _ => nI 0))), (.inl (G.2.1 0, 8, .inl (fun _ => nI 0))), (.inl (G.2.1 0, 488, .inl (fun _ => nI 0)))]) x (.inr (2, [.int 0, .int 0, .int 0, .ref sz, .ref (sz + 1), .ref (sz + 2), .null, .null, .null, .int 0, .null, .null, .null, .null, .null, .null, .int 0, .int 0, .int 0, .int 0, .null, .int 0]))) H6 := hH
  refine lv_aload_n hx hb dR_init_29 rfl (lv_at hl 0 rfl) ?_
  refine lv_sipush (v := nI 3840) hx hb dR_init_30 (by decide) ?_
  refine zw_newa (atype := .int) (cA := G.2.1 0) (a0 := (3840, .inl (fun _ => nI 0))) hx hb (hz _ zm_76) hK hH hS (Nat.le_trans hE.2.1 hS.1) 0 rfl rfl rfl (by decide) (Nat.le_of_ble_eq_true rfl) (Nat.le_of_ble_eq_true rfl) dR_init_33 (fun H7 hH hz1 hS => ?_)
  rw [hsz] at hH hz1 ⊢
  replace hsz : H7.size = sz + 4 := hz1
  clear hz1
  rw [zw_segn M _ _ _ hxs (by rfl)] at hH
  have hH : zw_H G.1 zCl B (zw_u (zw_seg M sz [(.inl (G.2.1 2, 8, .inl (fun _ => nI 0))), (.inl (G.2.1 0, 8, .inl (fun _ => nI 0))), (.inl (G.2.1 0, 488, .inl (fun _ => nI 0))), (.inl (G.2.1 0, 3840, .inl (fun _ => nI 0)))]) x (.inr (2, [.int 0, .int 0, .int 0, .ref sz, .ref (sz + 1), .ref (sz + 2), .null, .null, .null, .int 0, .null, .null, .null, .null, .null, .null, .int 0, .int 0, .int 0, .int 0, .null, .int 0]))) H7 := hH
  refine zw_putF (D := G.1) (ci := 2) (v := .ref (sz + 3)) (ty := (.array .int)) (C := RR) (T := TR) (N := 22) hx hb hz iR tR tR_ok nR hown hK hH hS (zw_us _ _ _) rfl 6 (by decide) (hz _ zm_394) (fun _ h9 => h9) rfl hin rfl (by decide +kernel) rfl rfl (Nat.le_of_ble_eq_true rfl) dR_init_35 (fun H8 L8 hH hz1 hS => ?_)
  replace hsz := hz1.trans hsz
  clear hz1
  rw [zw_uu] at hH
  have hH : zw_H G.1 zCl B (zw_u (zw_seg M sz [(.inl (G.2.1 2, 8, .inl (fun _ => nI 0))), (.inl (G.2.1 0, 8, .inl (fun _ => nI 0))), (.inl (G.2.1 0, 488, .inl (fun _ => nI 0))), (.inl (G.2.1 0, 3840, .inl (fun _ => nI 0)))]) x (.inr (2, [.int 0, .int 0, .int 0, .ref sz, .ref (sz + 1), .ref (sz + 2), .ref (sz + 3), .null, .null, .int 0, .null, .null, .null, .null, .null, .null, .int 0, .int 0, .int 0, .int 0, .null, .int 0]))) H8 := hH
  refine lv_aload_n hx hb dR_init_38 rfl (lv_at hl 0 rfl) ?_
  refine lv_bipush (v := nI 8) hx hb dR_init_39 (by decide) ?_
  refine zw_newa (atype := .int) (cA := G.2.1 0) (a0 := (8, .inl (fun _ => nI 0))) hx hb (hz _ zm_76) hK hH hS (Nat.le_trans hE.2.1 hS.1) 0 rfl rfl rfl (by decide) (Nat.le_of_ble_eq_true rfl) (Nat.le_of_ble_eq_true rfl) dR_init_41 (fun H9 hH hz1 hS => ?_)
  rw [hsz] at hH hz1 ⊢
  replace hsz : H9.size = sz + 5 := hz1
  clear hz1
  rw [zw_segn M _ _ _ hxs (by rfl)] at hH
  have hH : zw_H G.1 zCl B (zw_u (zw_seg M sz [(.inl (G.2.1 2, 8, .inl (fun _ => nI 0))), (.inl (G.2.1 0, 8, .inl (fun _ => nI 0))), (.inl (G.2.1 0, 488, .inl (fun _ => nI 0))), (.inl (G.2.1 0, 3840, .inl (fun _ => nI 0))), (.inl (G.2.1 0, 8, .inl (fun _ => nI 0)))]) x (.inr (2, [.int 0, .int 0, .int 0, .ref sz, .ref (sz + 1), .ref (sz + 2), .ref (sz + 3), .null, .null, .int 0, .null, .null, .null, .null, .null, .null, .int 0, .int 0, .int 0, .int 0, .null, .int 0]))) H9 := hH
  refine zw_putF (D := G.1) (ci := 2) (v := .ref (sz + 4)) (ty := (.array .int)) (C := RR) (T := TR) (N := 22) hx hb hz iR tR tR_ok nR hown hK hH hS (zw_us _ _ _) rfl 7 (by decide) (hz _ zm_395) (fun _ h9 => h9) rfl hin rfl (by decide +kernel) rfl rfl (Nat.le_of_ble_eq_true rfl) dR_init_43 (fun H10 L10 hH hz1 hS => ?_)
  replace hsz := hz1.trans hsz
  clear hz1
  rw [zw_uu] at hH
  have hH : zw_H G.1 zCl B (zw_u (zw_seg M sz [(.inl (G.2.1 2, 8, .inl (fun _ => nI 0))), (.inl (G.2.1 0, 8, .inl (fun _ => nI 0))), (.inl (G.2.1 0, 488, .inl (fun _ => nI 0))), (.inl (G.2.1 0, 3840, .inl (fun _ => nI 0))), (.inl (G.2.1 0, 8, .inl (fun _ => nI 0)))]) x (.inr (2, [.int 0, .int 0, .int 0, .ref sz, .ref (sz + 1), .ref (sz + 2), .ref (sz + 3), .ref (sz + 4), .null, .int 0, .null, .null, .null, .null, .null, .null, .int 0, .int 0, .int 0, .int 0, .null, .int 0]))) H10 := hH
  refine lv_aload_n hx hb dR_init_46 rfl (lv_at hl 0 rfl) ?_
  refine lv_bipush (v := nI 120) hx hb dR_init_47 (by decide) ?_
  refine zw_newa (atype := .int) (cA := G.2.1 0) (a0 := (120, .inl (fun _ => nI 0))) hx hb (hz _ zm_76) hK hH hS (Nat.le_trans hE.2.1 hS.1) 0 rfl rfl rfl (by decide) (Nat.le_of_ble_eq_true rfl) (Nat.le_of_ble_eq_true rfl) dR_init_49 (fun H11 hH hz1 hS => ?_)
  rw [hsz] at hH hz1 ⊢
  replace hsz : H11.size = sz + 6 := hz1
  clear hz1
  rw [zw_segn M _ _ _ hxs (by rfl)] at hH
  have hH : zw_H G.1 zCl B (zw_u (zw_seg M sz [(.inl (G.2.1 2, 8, .inl (fun _ => nI 0))), (.inl (G.2.1 0, 8, .inl (fun _ => nI 0))), (.inl (G.2.1 0, 488, .inl (fun _ => nI 0))), (.inl (G.2.1 0, 3840, .inl (fun _ => nI 0))), (.inl (G.2.1 0, 8, .inl (fun _ => nI 0))), (.inl (G.2.1 0, 120, .inl (fun _ => nI 0)))]) x (.inr (2, [.int 0, .int 0, .int 0, .ref sz, .ref (sz + 1), .ref (sz + 2), .ref (sz + 3), .ref (sz + 4), .null, .int 0, .null, .null, .null, .null, .null, .null, .int 0, .int 0, .int 0, .int 0, .null, .int 0]))) H11 := hH
  refine zw_putF (D := G.1) (ci := 2) (v := .ref (sz + 5)) (ty := (.array .int)) (C := RR) (T := TR) (N := 22) hx hb hz iR tR tR_ok nR hown hK hH hS (zw_us _ _ _) rfl 8 (by decide) (hz _ zm_396) (fun _ h9 => h9) rfl hin rfl (by decide +kernel) rfl rfl (Nat.le_of_ble_eq_true rfl) dR_init_51 (fun H12 L12 hH hz1 hS => ?_)
  replace hsz := hz1.trans hsz
  clear hz1
  rw [zw_uu] at hH
  have hH : zw_H G.1 zCl B (zw_u (zw_seg M sz [(.inl (G.2.1 2, 8, .inl (fun _ => nI 0))), (.inl (G.2.1 0, 8, .inl (fun _ => nI 0))), (.inl (G.2.1 0, 488, .inl (fun _ => nI 0))), (.inl (G.2.1 0, 3840, .inl (fun _ => nI 0))), (.inl (G.2.1 0, 8, .inl (fun _ => nI 0))), (.inl (G.2.1 0, 120, .inl (fun _ => nI 0)))]) x (.inr (2, [.int 0, .int 0, .int 0, .ref sz, .ref (sz + 1), .ref (sz + 2), .ref (sz + 3), .ref (sz + 4), .ref (sz + 5), .int 0, .null, .null, .null, .null, .null, .null, .int 0, .int 0, .int 0, .int 0, .null, .int 0]))) H12 := hH
  refine lv_aload_n hx hb dR_init_54 rfl (lv_at hl 0 rfl) ?_
  refine lv_bipush (v := nI 120) hx hb dR_init_55 (by decide) ?_
  refine zw_newa (atype := .int) (cA := G.2.1 0) (a0 := (120, .inl (fun _ => nI 0))) hx hb (hz _ zm_76) hK hH hS (Nat.le_trans hE.2.1 hS.1) 0 rfl rfl rfl (by decide) (Nat.le_of_ble_eq_true rfl) (Nat.le_of_ble_eq_true rfl) dR_init_57 (fun H13 hH hz1 hS => ?_)
  rw [hsz] at hH hz1 ⊢
  replace hsz : H13.size = sz + 7 := hz1
  clear hz1
  rw [zw_segn M _ _ _ hxs (by rfl)] at hH
  have hH : zw_H G.1 zCl B (zw_u (zw_seg M sz [(.inl (G.2.1 2, 8, .inl (fun _ => nI 0))), (.inl (G.2.1 0, 8, .inl (fun _ => nI 0))), (.inl (G.2.1 0, 488, .inl (fun _ => nI 0))), (.inl (G.2.1 0, 3840, .inl (fun _ => nI 0))), (.inl (G.2.1 0, 8, .inl (fun _ => nI 0))), (.inl (G.2.1 0, 120, .inl (fun _ => nI 0))), (.inl (G.2.1 0, 120, .inl (fun _ => nI 0)))]) x (.inr (2, [.int 0, .int 0, .int 0, .ref sz, .ref (sz + 1), .ref (sz + 2), .ref (sz + 3), .ref (sz + 4), .ref (sz + 5), .int 0, .null, .null, .null, .null, .null, .null, .int 0, .int 0, .int 0, .int 0, .null, .int 0]))) H13 := hH
  refine zw_putF (D := G.1) (ci := 2) (v := .ref (sz + 6)) (ty := (.array .int)) (C := RR) (T := TR) (N := 22) hx hb hz iR tR tR_ok nR hown hK hH hS (zw_us _ _ _) rfl 10 (by decide) (hz _ zm_398) (fun _ h9 => h9) rfl hin rfl (by decide +kernel) rfl rfl (Nat.le_of_ble_eq_true rfl) dR_init_59 (fun H14 L14 hH hz1 hS => ?_)
  replace hsz := hz1.trans hsz
  clear hz1
  rw [zw_uu] at hH
  have hH : zw_H G.1 zCl B (zw_u (zw_seg M sz [(.inl (G.2.1 2, 8, .inl (fun _ => nI 0))), (.inl (G.2.1 0, 8, .inl (fun _ => nI 0))), (.inl (G.2.1 0, 488, .inl (fun _ => nI 0))), (.inl (G.2.1 0, 3840, .inl (fun _ => nI 0))), (.inl (G.2.1 0, 8, .inl (fun _ => nI 0))), (.inl (G.2.1 0, 120, .inl (fun _ => nI 0))), (.inl (G.2.1 0, 120, .inl (fun _ => nI 0)))]) x (.inr (2, [.int 0, .int 0, .int 0, .ref sz, .ref (sz + 1), .ref (sz + 2), .ref (sz + 3), .ref (sz + 4), .ref (sz + 5), .int 0, .ref (sz + 6), .null, .null, .null, .null, .null, .int 0, .int 0, .int 0, .int 0, .null, .int 0]))) H14 := hH
  refine lv_aload_n hx hb dR_init_62 rfl (lv_at hl 0 rfl) ?_
  refine lv_bipush (v := nI 120) hx hb dR_init_63 (by decide) ?_
  refine zw_newa (atype := .int) (cA := G.2.1 0) (a0 := (120, .inl (fun _ => nI 0))) hx hb (hz _ zm_76) hK hH hS (Nat.le_trans hE.2.1 hS.1) 0 rfl rfl rfl (by decide) (Nat.le_of_ble_eq_true rfl) (Nat.le_of_ble_eq_true rfl) dR_init_65 (fun H15 hH hz1 hS => ?_)
  rw [hsz] at hH hz1 ⊢
  replace hsz : H15.size = sz + 8 := hz1
  clear hz1
  rw [zw_segn M _ _ _ hxs (by rfl)] at hH
  have hH : zw_H G.1 zCl B (zw_u (zw_seg M sz [(.inl (G.2.1 2, 8, .inl (fun _ => nI 0))), (.inl (G.2.1 0, 8, .inl (fun _ => nI 0))), (.inl (G.2.1 0, 488, .inl (fun _ => nI 0))), (.inl (G.2.1 0, 3840, .inl (fun _ => nI 0))), (.inl (G.2.1 0, 8, .inl (fun _ => nI 0))), (.inl (G.2.1 0, 120, .inl (fun _ => nI 0))), (.inl (G.2.1 0, 120, .inl (fun _ => nI 0))), (.inl (G.2.1 0, 120, .inl (fun _ => nI 0)))]) x (.inr (2, [.int 0, .int 0, .int 0, .ref sz, .ref (sz + 1), .ref (sz + 2), .ref (sz + 3), .ref (sz + 4), .ref (sz + 5), .int 0, .ref (sz + 6), .null, .null, .null, .null, .null, .int 0, .int 0, .int 0, .int 0, .null, .int 0]))) H15 := hH
  refine zw_putF (D := G.1) (ci := 2) (v := .ref (sz + 7)) (ty := (.array .int)) (C := RR) (T := TR) (N := 22) hx hb hz iR tR tR_ok nR hown hK hH hS (zw_us _ _ _) rfl 11 (by decide) (hz _ zm_399) (fun _ h9 => h9) rfl hin rfl (by decide +kernel) rfl rfl (Nat.le_of_ble_eq_true rfl) dR_init_67 (fun H16 L16 hH hz1 hS => ?_)
  replace hsz := hz1.trans hsz
  clear hz1
  rw [zw_uu] at hH
  have hH : zw_H G.1 zCl B (zw_u (zw_seg M sz [(.inl (G.2.1 2, 8, .inl (fun _ => nI 0))), (.inl (G.2.1 0, 8, .inl (fun _ => nI 0))), (.inl (G.2.1 0, 488, .inl (fun _ => nI 0))), (.inl (G.2.1 0, 3840, .inl (fun _ => nI 0))), (.inl (G.2.1 0, 8, .inl (fun _ => nI 0))), (.inl (G.2.1 0, 120, .inl (fun _ => nI 0))), (.inl (G.2.1 0, 120, .inl (fun _ => nI 0))), (.inl (G.2.1 0, 120, .inl (fun _ => nI 0)))]) x (.inr (2, [.int 0, .int 0, .int 0, .ref sz, .ref (sz + 1), .ref (sz + 2), .ref (sz + 3), .ref (sz + 4), .ref (sz + 5), .int 0, .ref (sz + 6), .ref (sz + 7), .null, .null, .null, .null, .int 0, .int 0, .int 0, .int 0, .null, .int 0]))) H16 := hH
  refine lv_aload_n hx hb dR_init_70 rfl (lv_at hl 0 rfl) ?_
  refine lv_bipush (v := nI 120) hx hb dR_init_71 (by decide) ?_
  refine zw_newa (atype := .int) (cA := G.2.1 0) (a0 := (120, .inl (fun _ => nI 0))) hx hb (hz _ zm_76) hK hH hS (Nat.le_trans hE.2.1 hS.1) 0 rfl rfl rfl (by decide) (Nat.le_of_ble_eq_true rfl) (Nat.le_of_ble_eq_true rfl) dR_init_73 (fun H17 hH hz1 hS => ?_)
  rw [hsz] at hH hz1 ⊢
  replace hsz : H17.size = sz + 9 := hz1
  clear hz1
  rw [zw_segn M _ _ _ hxs (by rfl)] at hH
  have hH : zw_H G.1 zCl B (zw_u (zw_seg M sz [(.inl (G.2.1 2, 8, .inl (fun _ => nI 0))), (.inl (G.2.1 0, 8, .inl (fun _ => nI 0))), (.inl (G.2.1 0, 488, .inl (fun _ => nI 0))), (.inl (G.2.1 0, 3840, .inl (fun _ => nI 0))), (.inl (G.2.1 0, 8, .inl (fun _ => nI 0))), (.inl (G.2.1 0, 120, .inl (fun _ => nI 0))), (.inl (G.2.1 0, 120, .inl (fun _ => nI 0))), (.inl (G.2.1 0, 120, .inl (fun _ => nI 0))), (.inl (G.2.1 0, 120, .inl (fun _ => nI 0)))]) x (.inr (2, [.int 0, .int 0, .int 0, .ref sz, .ref (sz + 1), .ref (sz + 2), .ref (sz + 3), .ref (sz + 4), .ref (sz + 5), .int 0, .ref (sz + 6), .ref (sz + 7), .null, .null, .null, .null, .int 0, .int 0, .int 0, .int 0, .null, .int 0]))) H17 := hH
  refine zw_putF (D := G.1) (ci := 2) (v := .ref (sz + 8)) (ty := (.array .int)) (C := RR) (T := TR) (N := 22) hx hb hz iR tR tR_ok nR hown hK hH hS (zw_us _ _ _) rfl 12 (by decide) (hz _ zm_400) (fun _ h9 => h9) rfl hin rfl (by decide +kernel) rfl rfl (Nat.le_of_ble_eq_true rfl) dR_init_75 (fun H18 L18 hH hz1 hS => ?_)
  replace hsz := hz1.trans hsz
  clear hz1
  rw [zw_uu] at hH
  have hH : zw_H G.1 zCl B (zw_u (zw_seg M sz [(.inl (G.2.1 2, 8, .inl (fun _ => nI 0))), (.inl (G.2.1 0, 8, .inl (fun _ => nI 0))), (.inl (G.2.1 0, 488, .inl (fun _ => nI 0))), (.inl (G.2.1 0, 3840, .inl (fun _ => nI 0))), (.inl (G.2.1 0, 8, .inl (fun _ => nI 0))), (.inl (G.2.1 0, 120, .inl (fun _ => nI 0))), (.inl (G.2.1 0, 120, .inl (fun _ => nI 0))), (.inl (G.2.1 0, 120, .inl (fun _ => nI 0))), (.inl (G.2.1 0, 120, .inl (fun _ => nI 0)))]) x (.inr (2, [.int 0, .int 0, .int 0, .ref sz, .ref (sz + 1), .ref (sz + 2), .ref (sz + 3), .ref (sz + 4), .ref (sz + 5), .int 0, .ref (sz + 6), .ref (sz + 7), .ref (sz + 8), .null, .null, .null, .int 0, .int 0, .int 0, .int 0, .null, .int 0]))) H18 := hH
  refine lv_aload_n hx hb dR_init_78 rfl (lv_at hl 0 rfl) ?_
  refine lv_bipush (v := nI 120) hx hb dR_init_79 (by decide) ?_
  refine zw_newa (atype := .int) (cA := G.2.1 0) (a0 := (120, .inl (fun _ => nI 0))) hx hb (hz _ zm_76) hK hH hS (Nat.le_trans hE.2.1 hS.1) 0 rfl rfl rfl (by decide) (Nat.le_of_ble_eq_true rfl) (Nat.le_of_ble_eq_true rfl) dR_init_81 (fun H19 hH hz1 hS => ?_)
  rw [hsz] at hH hz1 ⊢
  replace hsz : H19.size = sz + 10 := hz1
  clear hz1
  rw [zw_segn M _ _ _ hxs (by rfl)] at hH
  have hH : zw_H G.1 zCl B (zw_u (zw_seg M sz [(.inl (G.2.1 2, 8, .inl (fun _ => nI 0))), (.inl (G.2.1 0, 8, .inl (fun _ => nI 0))), (.inl (G.2.1 0, 488, .inl (fun _ => nI 0))), (.inl (G.2.1 0, 3840, .inl (fun _ => nI 0))), (.inl (G.2.1 0, 8, .inl (fun _ => nI 0))), (.inl (G.2.1 0, 120, .inl (fun _ => nI 0))), (.inl (G.2.1 0, 120, .inl (fun _ => nI 0))), (.inl (G.2.1 0, 120, .inl (fun _ => nI 0))), (.inl (G.2.1 0, 120, .inl (fun _ => nI 0))), (.inl (G.2.1 0, 120, .inl (fun _ => nI 0)))]) x (.inr (2, [.int 0, .int 0, .int 0, .ref sz, .ref (sz + 1), .ref (sz + 2), .ref (sz + 3), .ref (sz + 4), .ref (sz + 5), .int 0, .ref (sz + 6), .ref (sz + 7), .ref (sz + 8), .null, .null, .null, .int 0, .int 0, .int 0, .int 0, .null, .int 0]))) H19 := hH
  refine zw_putF (D := G.1) (ci := 2) (v := .ref (sz + 9)) (ty := (.array .int)) (C := RR) (T := TR) (N := 22) hx hb hz iR tR tR_ok nR hown hK hH hS (zw_us _ _ _) rfl 13 (by decide) (hz _ zm_401) (fun _ h9 => h9) rfl hin rfl (by decide +kernel) rfl rfl (Nat.le_of_ble_eq_true rfl) dR_init_83 (fun H20 L20 hH hz1 hS => ?_)
  replace hsz := hz1.trans hsz
  clear hz1
  rw [zw_uu] at hH
  have hH : zw_H G.1 zCl B (zw_u (zw_seg M sz [(.inl (G.2.1 2, 8, .inl (fun _ => nI 0))), (.inl (G.2.1 0, 8, .inl (fun _ => nI 0))), (.inl (G.2.1 0, 488, .inl (fun _ => nI 0))), (.inl (G.2.1 0, 3840, .inl (fun _ => nI 0))), (.inl (G.2.1 0, 8, .inl (fun _ => nI 0))), (.inl (G.2.1 0, 120, .inl (fun _ => nI 0))), (.inl (G.2.1 0, 120, .inl (fun _ => nI 0))), (.inl (G.2.1 0, 120, .inl (fun _ => nI 0))), (.inl (G.2.1 0, 120, .inl (fun _ => nI 0))), (.inl (G.2.1 0, 120, .inl (fun _ => nI 0)))]) x (.inr (2, [.int 0, .int 0, .int 0, .ref sz, .ref (sz + 1), .ref (sz + 2), .ref (sz + 3), .ref (sz + 4), .ref (sz + 5), .int 0, .ref (sz + 6), .ref (sz + 7), .ref (sz + 8), .ref (sz + 9), .null, .null, .int 0, .int 0, .int 0, .int 0, .null, .int 0]))) H20 := hH
  refine lv_aload_n hx hb dR_init_86 rfl (lv_at hl 0 rfl) ?_
  refine lv_bipush (v := nI 120) hx hb dR_init_87 (by decide) ?_
  refine zw_newa (atype := .long) (cA := G.2.1 1) (a0 := (120, .inr (.inl (fun _ => 0)))) hx hb (hz _ zm_75) hK hH hS (Nat.le_trans hE.2.1 hS.1) 1 rfl rfl rfl (by decide) (Nat.le_of_ble_eq_true rfl) (Nat.le_of_ble_eq_true rfl) dR_init_89 (fun H21 hH hz1 hS => ?_)
  rw [hsz] at hH hz1 ⊢
  replace hsz : H21.size = sz + 11 := hz1
  clear hz1
  rw [zw_segn M _ _ _ hxs (by rfl)] at hH
  have hH : zw_H G.1 zCl B (zw_u (zw_seg M sz [(.inl (G.2.1 2, 8, .inl (fun _ => nI 0))), (.inl (G.2.1 0, 8, .inl (fun _ => nI 0))), (.inl (G.2.1 0, 488, .inl (fun _ => nI 0))), (.inl (G.2.1 0, 3840, .inl (fun _ => nI 0))), (.inl (G.2.1 0, 8, .inl (fun _ => nI 0))), (.inl (G.2.1 0, 120, .inl (fun _ => nI 0))), (.inl (G.2.1 0, 120, .inl (fun _ => nI 0))), (.inl (G.2.1 0, 120, .inl (fun _ => nI 0))), (.inl (G.2.1 0, 120, .inl (fun _ => nI 0))), (.inl (G.2.1 0, 120, .inl (fun _ => nI 0))), (.inl (G.2.1 1, 120, .inr (.inl (fun _ => 0))))]) x (.inr (2, [.int 0, .int 0, .int 0, .ref sz, .ref (sz + 1), .ref (sz + 2), .ref (sz + 3), .ref (sz + 4), .ref (sz + 5), .int 0, .ref (sz + 6), .ref (sz + 7), .ref (sz + 8), .ref (sz + 9), .null, .null, .int 0, .int 0, .int 0, .int 0, .null, .int 0]))) H21 := hH
  refine zw_putF (D := G.1) (ci := 2) (v := .ref (sz + 10)) (ty := (.array .long)) (C := RR) (T := TR) (N := 22) hx hb hz iR tR tR_ok nR hown hK hH hS (zw_us _ _ _) rfl 14 (by decide) (hz _ zm_402) (fun _ h9 => h9) rfl hin rfl (by decide +kernel) rfl rfl (Nat.le_of_ble_eq_true rfl) dR_init_91 (fun H22 L22 hH hz1 hS => ?_)
  replace hsz := hz1.trans hsz
  clear hz1
  rw [zw_uu] at hH
  have hH : zw_H G.1 zCl B (zw_u (zw_seg M sz [(.inl (G.2.1 2, 8, .inl (fun _ => nI 0))), (.inl (G.2.1 0, 8, .inl (fun _ => nI 0))), (.inl (G.2.1 0, 488, .inl (fun _ => nI 0))), (.inl (G.2.1 0, 3840, .inl (fun _ => nI 0))), (.inl (G.2.1 0, 8, .inl (fun _ => nI 0))), (.inl (G.2.1 0, 120, .inl (fun _ => nI 0))), (.inl (G.2.1 0, 120, .inl (fun _ => nI 0))), (.inl (G.2.1 0, 120, .inl (fun _ => nI 0))), (.inl (G.2.1 0, 120, .inl (fun _ => nI 0))), (.inl (G.2.1 0, 120, .inl (fun _ => nI 0))), (.inl (G.2.1 1, 120, .inr (.inl (fun _ => 0))))]) x (.inr (2, [.int 0, .int 0, .int 0, .ref sz, .ref (sz + 1), .ref (sz + 2), .ref (sz + 3), .ref (sz + 4), .ref (sz + 5), .int 0, .ref (sz + 6), .ref (sz + 7), .ref (sz + 8), .ref (sz + 9), .ref (sz + 10), .null, .int 0, .int 0, .int 0, .int 0, .null, .int 0]))) H22 := hH
  refine lv_aload_n hx hb dR_init_94 rfl (lv_at hl 0 rfl) ?_
  refine lv_ldc hx hb hown (hz _ zm_387) dR_init_95 ?_
  refine zw_ti (v' := nI 57600) (by decide) ?_
  refine zw_newa (atype := .int) (cA := G.2.1 0) (a0 := (57600, .inl (fun _ => nI 0))) hx hb (hz _ zm_76) hK hH hS (Nat.le_trans hE.2.1 hS.1) 0 rfl rfl rfl (by decide) (Nat.le_of_ble_eq_true rfl) (Nat.le_of_ble_eq_true rfl) dR_init_97 (fun H23 hH hz1 hS => ?_)
  rw [hsz] at hH hz1 ⊢
  replace hsz : H23.size = sz + 12 := hz1
  clear hz1
  rw [zw_segn M _ _ _ hxs (by rfl)] at hH
  have hH : zw_H G.1 zCl B (zw_u (zw_seg M sz [(.inl (G.2.1 2, 8, .inl (fun _ => nI 0))), (.inl (G.2.1 0, 8, .inl (fun _ => nI 0))), (.inl (G.2.1 0, 488, .inl (fun _ => nI 0))), (.inl (G.2.1 0, 3840, .inl (fun _ => nI 0))), (.inl (G.2.1 0, 8, .inl (fun _ => nI 0))), (.inl (G.2.1 0, 120, .inl (fun _ => nI 0))), (.inl (G.2.1 0, 120, .inl (fun _ => nI 0))), (.inl (G.2.1 0, 120, .inl (fun _ => nI 0))), (.inl (G.2.1 0, 120, .inl (fun _ => nI 0))), (.inl (G.2.1 0, 120, .inl (fun _ => nI 0))), (.inl (G.2.1 1, 120, .inr (.inl (fun _ => 0)))), (.inl (G.2.1 0, 57600, .inl (fun _ => nI 0)))]) x (.inr (2, [.int 0, .int 0, .int 0, .ref sz, .ref (sz + 1), .ref (sz + 2), .ref (sz + 3), .ref (sz + 4), .ref (sz + 5), .int 0, .ref (sz + 6), .ref (sz + 7), .ref (sz + 8), .ref (sz + 9), .ref (sz + 10), .null, .int 0, .int 0, .int 0, .int 0, .null, .int 0]))) H23 := hH
  refine zw_putF (D := G.1) (ci := 2) (v := .ref (sz + 11)) (ty := (.array .int)) (C := RR) (T := TR) (N := 22) hx hb hz iR tR tR_ok nR hown hK hH hS (zw_us _ _ _) rfl 15 (by decide) (hz _ zm_403) (fun _ h9 => h9) rfl hin rfl (by decide +kernel) rfl rfl (Nat.le_of_ble_eq_true rfl) dR_init_99 (fun H24 L24 hH hz1 hS => ?_)
  replace hsz := hz1.trans hsz
  clear hz1
  rw [zw_uu] at hH
  have hH : zw_H G.1 zCl B (zw_u (zw_seg M sz [(.inl (G.2.1 2, 8, .inl (fun _ => nI 0))), (.inl (G.2.1 0, 8, .inl (fun _ => nI 0))), (.inl (G.2.1 0, 488, .inl (fun _ => nI 0))), (.inl (G.2.1 0, 3840, .inl (fun _ => nI 0))), (.inl (G.2.1 0, 8, .inl (fun _ => nI 0))), (.inl (G.2.1 0, 120, .inl (fun _ => nI 0))), (.inl (G.2.1 0, 120, .inl (fun _ => nI 0))), (.inl (G.2.1 0, 120, .inl (fun _ => nI 0))), (.inl (G.2.1 0, 120, .inl (fun _ => nI 0))), (.inl (G.2.1 0, 120, .inl (fun _ => nI 0))), (.inl (G.2.1 1, 120, .inr (.inl (fun _ => 0)))), (.inl (G.2.1 0, 57600, .inl (fun _ => nI 0)))]) x (.inr (2, [.int 0, .int 0, .int 0, .ref sz, .ref (sz + 1), .ref (sz + 2), .ref (sz + 3), .ref (sz + 4), .ref (sz + 5), .int 0, .ref (sz + 6), .ref (sz + 7), .ref (sz + 8), .ref (sz + 9), .ref (sz + 10), .ref (sz + 11), .int 0, .int 0, .int 0, .int 0, .null, .int 0]))) H24 := hH
  refine lv_aload_n hx hb dR_init_102 rfl (lv_at hl 0 rfl) ?_
  refine lv_sipush (v := nI 480) hx hb dR_init_103 (by decide) ?_
  refine zw_newa (atype := .int) (cA := G.2.1 0) (a0 := (480, .inl (fun _ => nI 0))) hx hb (hz _ zm_76) hK hH hS (Nat.le_trans hE.2.1 hS.1) 0 rfl rfl rfl (by decide) (Nat.le_of_ble_eq_true rfl) (Nat.le_of_ble_eq_true rfl) dR_init_106 (fun H25 hH hz1 hS => ?_)
  rw [hsz] at hH hz1 ⊢
  replace hsz : H25.size = sz + 13 := hz1
  clear hz1
  rw [zw_segn M _ _ _ hxs (by rfl)] at hH
  have hH : zw_H G.1 zCl B (zw_u (zw_seg M sz [(.inl (G.2.1 2, 8, .inl (fun _ => nI 0))), (.inl (G.2.1 0, 8, .inl (fun _ => nI 0))), (.inl (G.2.1 0, 488, .inl (fun _ => nI 0))), (.inl (G.2.1 0, 3840, .inl (fun _ => nI 0))), (.inl (G.2.1 0, 8, .inl (fun _ => nI 0))), (.inl (G.2.1 0, 120, .inl (fun _ => nI 0))), (.inl (G.2.1 0, 120, .inl (fun _ => nI 0))), (.inl (G.2.1 0, 120, .inl (fun _ => nI 0))), (.inl (G.2.1 0, 120, .inl (fun _ => nI 0))), (.inl (G.2.1 0, 120, .inl (fun _ => nI 0))), (.inl (G.2.1 1, 120, .inr (.inl (fun _ => 0)))), (.inl (G.2.1 0, 57600, .inl (fun _ => nI 0))), (.inl (G.2.1 0, 480, .inl (fun _ => nI 0)))]) x (.inr (2, [.int 0, .int 0, .int 0, .ref sz, .ref (sz + 1), .ref (sz + 2), .ref (sz + 3), .ref (sz + 4), .ref (sz + 5), .int 0, .ref (sz + 6), .ref (sz + 7), .ref (sz + 8), .ref (sz + 9), .ref (sz + 10), .ref (sz + 11), .int 0, .int 0, .int 0, .int 0, .null, .int 0]))) H25 := hH
  refine zw_putF (D := G.1) (ci := 2) (v := .ref (sz + 12)) (ty := (.array .int)) (C := RR) (T := TR) (N := 22) hx hb hz iR tR tR_ok nR hown hK hH hS (zw_us _ _ _) rfl 20 (by decide) (hz _ zm_408) (fun _ h9 => h9) rfl hin rfl (by decide +kernel) rfl rfl (Nat.le_of_ble_eq_true rfl) dR_init_108 (fun H26 L26 hH hz1 hS => ?_)
  replace hsz := hz1.trans hsz
  clear hz1
  rw [zw_uu] at hH
  have hH : zw_H G.1 zCl B (zw_u (zw_seg M sz [(.inl (G.2.1 2, 8, .inl (fun _ => nI 0))), (.inl (G.2.1 0, 8, .inl (fun _ => nI 0))), (.inl (G.2.1 0, 488, .inl (fun _ => nI 0))), (.inl (G.2.1 0, 3840, .inl (fun _ => nI 0))), (.inl (G.2.1 0, 8, .inl (fun _ => nI 0))), (.inl (G.2.1 0, 120, .inl (fun _ => nI 0))), (.inl (G.2.1 0, 120, .inl (fun _ => nI 0))), (.inl (G.2.1 0, 120, .inl (fun _ => nI 0))), (.inl (G.2.1 0, 120, .inl (fun _ => nI 0))), (.inl (G.2.1 0, 120, .inl (fun _ => nI 0))), (.inl (G.2.1 1, 120, .inr (.inl (fun _ => 0)))), (.inl (G.2.1 0, 57600, .inl (fun _ => nI 0))), (.inl (G.2.1 0, 480, .inl (fun _ => nI 0)))]) x (.inr (2, [.int 0, .int 0, .int 0, .ref sz, .ref (sz + 1), .ref (sz + 2), .ref (sz + 3), .ref (sz + 4), .ref (sz + 5), .int 0, .ref (sz + 6), .ref (sz + 7), .ref (sz + 8), .ref (sz + 9), .ref (sz + 10), .ref (sz + 11), .int 0, .int 0, .int 0, .int 0, .ref (sz + 12), .int 0]))) H26 := hH
  refine W.widen (k := 13) (n := 63200) (by decide) (by simp only []; decide) ?_
  refine zl_join (Wg := fun g => W p l e _ s m _ below meth c _ _ _ _ _ g) (F0 m 133 ls [.int (nI n), .ref x]) ?_ (fun hj => ?_)
  rotate_left
  · refine lv_aload_n hx hb dR_init_111 rfl (lv_at hl 0 rfl) ?_
    refine lv_iload_n hx hb dR_init_112 rfl (lv_at hl 1 rfl) ?_
    refine lv_iconst (v := nI 2) hx hb dR_init_113 (by decide) ?_
    refine lv_icmp_ge (tgt := 121) hx hb dR_init_114 (by decide) (fun d1 => ?_) (fun d1 => ?_)
    · refine lv_iload_n hx hb dR_init_121 rfl (lv_at hl 1 rfl) ?_
      refine lv_bipush (v := nI 8) hx hb dR_init_122 (by decide) ?_
      refine lv_icmp_le (tgt := 132) hx hb dR_init_124 (by decide) (fun d2 => ?_) (fun d2 => ?_)
      · refine lv_iload_n hx hb dR_init_132 rfl (lv_at hl 1 rfl) ?_
        refine zw_ti ((hnc.2.2 (Int32.not_lt.mpr d1) (Int32.not_lt.mpr d2)).symm) ?_
        exact hj
      · have hv9 : n = 8 := by rw [hnd]; unfold zcl; rw [if_neg (Int32.not_lt.mpr d1), if_pos (Int32.not_le.mp d2)]
        refine lv_bipush (v := nI 8) hx hb dR_init_127 (by decide) ?_
        refine lv_goto (tgt := 133) hx hb dR_init_129 (by decide) ?_
        refine zw_ti (congrArg nI hv9.symm) ?_
        exact hj
    · have hv9 : n = 2 := by rw [hnd]; exact if_pos (Int32.not_le.mp d1)
      refine lv_iconst (v := nI 2) hx hb dR_init_117 (by decide) ?_
      refine lv_goto (tgt := 133) hx hb dR_init_118 (by decide) ?_
      refine zw_ti (congrArg nI hv9.symm) ?_
      exact hj
  refine zw_putF (D := G.1) (ci := 2) (v := .int (nI n)) (ty := .int) (C := RR) (T := TR) (N := 22) hx hb hz iR tR tR_ok nR hown hK hH hS (zw_us _ _ _) rfl 1 (by decide) (hz _ zm_389) (fun _ h9 => h9) rfl hin rfl (by decide +kernel) rfl rfl (Nat.le_of_ble_eq_true rfl) dR_init_133 (fun H27 L27 hH hz1 hS => ?_)
  replace hsz := hz1.trans hsz
  clear hz1
  rw [zw_uu] at hH
  have hH : zw_H G.1 zCl B (zw_u (zw_seg M sz [(.inl (G.2.1 2, 8, .inl (fun _ => nI 0))), (.inl (G.2.1 0, 8, .inl (fun _ => nI 0))), (.inl (G.2.1 0, 488, .inl (fun _ => nI 0))), (.inl (G.2.1 0, 3840, .inl (fun _ => nI 0))), (.inl (G.2.1 0, 8, .inl (fun _ => nI 0))), (.inl (G.2.1 0, 120, .inl (fun _ => nI 0))), (.inl (G.2.1 0, 120, .inl (fun _ => nI 0))), (.inl (G.2.1 0, 120, .inl (fun _ => nI 0))), (.inl (G.2.1 0, 120, .inl (fun _ => nI 0))), (.inl (G.2.1 0, 120, .inl (fun _ => nI 0))), (.inl (G.2.1 1, 120, .inr (.inl (fun _ => 0)))), (.inl (G.2.1 0, 57600, .inl (fun _ => nI 0))), (.inl (G.2.1 0, 480, .inl (fun _ => nI 0)))]) x (.inr (2, [.int 0, .int (nI n), .int 0, .ref sz, .ref (sz + 1), .ref (sz + 2), .ref (sz + 3), .ref (sz + 4), .ref (sz + 5), .int 0, .ref (sz + 6), .ref (sz + 7), .ref (sz + 8), .ref (sz + 9), .ref (sz + 10), .ref (sz + 11), .int 0, .int 0, .int 0, .int 0, .ref (sz + 12), .int 0]))) H27 := hH
  refine zl_join (Wg := fun g => W p l e _ s m _ below meth c _ _ _ _ _ g) (F0 m 162 ls [.int (nI mb), .ref x]) ?_ (fun hj => ?_)
  rotate_left
  · refine lv_aload_n hx hb dR_init_136 rfl (lv_at hl 0 rfl) ?_
    refine lv_iload_n hx hb dR_init_137 rfl (lv_at hl 2 rfl) ?_
    refine lv_bipush (v := nI 16) hx hb dR_init_138 (by decide) ?_
    refine lv_icmp_ge (tgt := 148) hx hb dR_init_140 (by decide) (fun d1 => ?_) (fun d1 => ?_)
    · refine lv_iload_n hx hb dR_init_148 rfl (lv_at hl 2 rfl) ?_
      refine lv_sipush (v := nI 2000) hx hb dR_init_149 (by decide) ?_
      refine lv_icmp_le (tgt := 161) hx hb dR_init_152 (by decide) (fun d2 => ?_) (fun d2 => ?_)
      · refine lv_iload_n hx hb dR_init_161 rfl (lv_at hl 2 rfl) ?_
        refine zw_ti ((hmbc.2.2 (Int32.not_lt.mpr d1) (Int32.not_lt.mpr d2)).symm) ?_
        exact hj
      · have hv9 : mb = 2000 := by rw [hmbd]; unfold zcl; rw [if_neg (Int32.not_lt.mpr d1), if_pos (Int32.not_le.mp d2)]
        refine lv_sipush (v := nI 2000) hx hb dR_init_155 (by decide) ?_
        refine lv_goto (tgt := 162) hx hb dR_init_158 (by decide) ?_
        refine zw_ti (congrArg nI hv9.symm) ?_
        exact hj
    · have hv9 : mb = 16 := by rw [hmbd]; exact if_pos (Int32.not_le.mp d1)
      refine lv_bipush (v := nI 16) hx hb dR_init_143 (by decide) ?_
      refine lv_goto (tgt := 162) hx hb dR_init_145 (by decide) ?_
      refine zw_ti (congrArg nI hv9.symm) ?_
      exact hj
  refine zw_putF (D := G.1) (ci := 2) (v := .int (nI mb)) (ty := .int) (C := RR) (T := TR) (N := 22) hx hb hz iR tR tR_ok nR hown hK hH hS (zw_us _ _ _) rfl 2 (by decide) (hz _ zm_390) (fun _ h9 => h9) rfl hin rfl (by decide +kernel) rfl rfl (Nat.le_of_ble_eq_true rfl) dR_init_162 (fun H28 L28 hH hz1 hS => ?_)
  replace hsz := hz1.trans hsz
  clear hz1
  rw [zw_uu] at hH
  have hH : zw_H G.1 zCl B (zw_u (zw_seg M sz [(.inl (G.2.1 2, 8, .inl (fun _ => nI 0))), (.inl (G.2.1 0, 8, .inl (fun _ => nI 0))), (.inl (G.2.1 0, 488, .inl (fun _ => nI 0))), (.inl (G.2.1 0, 3840, .inl (fun _ => nI 0))), (.inl (G.2.1 0, 8, .inl (fun _ => nI 0))), (.inl (G.2.1 0, 120, .inl (fun _ => nI 0))), (.inl (G.2.1 0, 120, .inl (fun _ => nI 0))), (.inl (G.2.1 0, 120, .inl (fun _ => nI 0))), (.inl (G.2.1 0, 120, .inl (fun _ => nI 0))), (.inl (G.2.1 0, 120, .inl (fun _ => nI 0))), (.inl (G.2.1 1, 120, .inr (.inl (fun _ => 0)))), (.inl (G.2.1 0, 57600, .inl (fun _ => nI 0))), (.inl (G.2.1 0, 480, .inl (fun _ => nI 0)))]) x (.inr (2, [.int 0, .int (nI n), .int (nI mb), .ref sz, .ref (sz + 1), .ref (sz + 2), .ref (sz + 3), .ref (sz + 4), .ref (sz + 5), .int 0, .ref (sz + 6), .ref (sz + 7), .ref (sz + 8), .ref (sz + 9), .ref (sz + 10), .ref (sz + 11), .int 0, .int 0, .int 0, .int 0, .ref (sz + 12), .int 0]))) H28 := hH
  refine lv_iconst (v := nI 0) hx hb dR_init_165 (by decide) ?_
  refine lv_istore_n (lv' := [(3, .int (nI 0)), (0, .ref x), (1, .int a), (2, .int b)]) hx hb dR_init_166 rfl hl (by decide) rfl (fun ls hl => ?_)
  obtain ⟨M9, hM9⟩ : ∃ Mq, Mq = zw_u (zw_seg M sz [(.inl (G.2.1 2, 8, .inl (fun _ => nI 0))), (.inl (G.2.1 0, 8, .inl (fun _ => nI 0))), (.inl (G.2.1 0, 488, .inl (fun _ => nI 0))), (.inl (G.2.1 0, 3840, .inl (fun _ => nI 0))), (.inl (G.2.1 0, 8, .inl (fun _ => nI 0))), (.inl (G.2.1 0, 120, .inl (fun _ => nI 0))), (.inl (G.2.1 0, 120, .inl (fun _ => nI 0))), (.inl (G.2.1 0, 120, .inl (fun _ => nI 0))), (.inl (G.2.1 0, 120, .inl (fun _ => nI 0))), (.inl (G.2.1 0, 120, .inl (fun _ => nI 0))), (.inl (G.2.1 1, 120, .inr (.inl (fun _ => 0)))), (.inl (G.2.1 0, 57600, .inl (fun _ => nI 0))), (.inl (G.2.1 0, 480, .inl (fun _ => nI 0)))]) x (.inr (2, [.int 0, .int (nI n), .int (nI mb), .ref sz, .ref (sz + 1), .ref (sz + 2), .ref (sz + 3), .ref (sz + 4), .ref (sz + 5), .int 0, .ref (sz + 6), .ref (sz + 7), .ref (sz + 8), .ref (sz + 9), .ref (sz + 10), .ref (sz + 11), .int 0, .int 0, .int 0, .int 0, .ref (sz + 12), .int 0])) := ⟨_, rfl⟩
  rw [← hM9] at hH
  have hx0 : M9 x = some (.inr (2, [.int 0, .int (nI n), .int (nI mb), .ref sz, .ref (sz + 1), .ref (sz + 2), .ref (sz + 3), .ref (sz + 4), .ref (sz + 5), .int 0, .ref (sz + 6), .ref (sz + 7), .ref (sz + 8), .ref (sz + 9), .ref (sz + 10), .ref (sz + 11), .int 0, .int 0, .int 0, .int 0, .ref (sz + 12), .int 0])) := by rw [hM9]; exact zw_us _ _ _
  have hdn : M9 (sz) = some (.inl (G.2.1 2, 8, .inl (fun _ => nI 0))) := by rw [hM9]; exact zw_segi (k := 0) M hxs rfl
  have hmd : M9 (sz + 1) = some (.inl (G.2.1 0, 8, .inl (fun _ => nI 0))) := by rw [hM9]; exact zw_segi (k := 1) M hxs rfl
  have hwt : M9 (sz + 2) = some (.inl (G.2.1 0, 488, .inl (fun _ => nI 0))) := by rw [hM9]; exact zw_segi (k := 2) M hxs rfl
  have hhas : M9 (sz + 3) = some (.inl (G.2.1 0, 3840, .inl (fun _ => nI 0))) := by rw [hM9]; exact zw_segi (k := 3) M hxs rfl
  have hmn : M9 (sz + 4) = some (.inl (G.2.1 0, 8, .inl (fun _ => nI 0))) := by rw [hM9]; exact zw_segi (k := 4) M hxs rfl
  have hrw : M9 (sz + 5) = some (.inl (G.2.1 0, 120, .inl (fun _ => nI 0))) := by rw [hM9]; exact zw_segi (k := 5) M hxs rfl
  have hnu : M9 (sz + 6) = some (.inl (G.2.1 0, 120, .inl (fun _ => nI 0))) := by rw [hM9]; exact zw_segi (k := 6) M hxs rfl
  have hfr : M9 (sz + 7) = some (.inl (G.2.1 0, 120, .inl (fun _ => nI 0))) := by rw [hM9]; exact zw_segi (k := 7) M hxs rfl
  have hto : M9 (sz + 8) = some (.inl (G.2.1 0, 120, .inl (fun _ => nI 0))) := by rw [hM9]; exact zw_segi (k := 8) M hxs rfl
  have hsi : M9 (sz + 9) = some (.inl (G.2.1 0, 120, .inl (fun _ => nI 0))) := by rw [hM9]; exact zw_segi (k := 9) M hxs rfl
  have hcl : M9 (sz + 10) = some (.inl (G.2.1 1, 120, .inr (.inl (fun _ => 0)))) := by rw [hM9]; exact zw_segi (k := 10) M hxs rfl
  have hins : M9 (sz + 11) = some (.inl (G.2.1 0, 57600, .inl (fun _ => nI 0))) := by rw [hM9]; exact zw_segi (k := 11) M hxs rfl
  have hpart : M9 (sz + 12) = some (.inl (G.2.1 0, 480, .inl (fun _ => nI 0))) := by rw [hM9]; exact zw_segi (k := 12) M hxs rfl
  have hkf : ∀ q : Nat, q ≠ x → q < sz → M9 q = M q := fun q h1 h2 => by rw [hM9]; exact zw_sego M _ _ h1 h2
  refine zl_upH (Wg := fun ls H locs => W p l e _ s m _ below meth c H locs 13 63200 _ (F0 m 167 ls [])) (fun i ls H locs => lv_has ls 4 [(0, .ref x), (1, .int a), (2, .int b), (3, .int (nI i))] ∧ ∃ Mq : zw_M, zw_H G.1 zCl B Mq H ∧ va_S (zw_A B) s.heap H locs ∧ Mq = zw_u M9 (sz + 5) (.inl (G.2.1 0, 120, .inl (fun a9 => nI (if a9 < i then a9 else 0)))) ∧ H.size = sz + 13) 120 ?_ (i := 0) (by omega) ⟨lv_sub hl [1, 2, 3, 0] rfl, M9, hH, hS, ⟨by rw [show (fun a9 => nI (if a9 < 0 then a9 else 0)) = fun _ => nI 0 from funext (fun q => by rw [if_neg (by omega)]), zw_ui hrw], hsz⟩⟩
  intro i hi ls Hi Li ⟨hl, Mi, hH, hS, hI⟩ ih
  have hl : lv_has ls 4 [(0, .ref x), (1, .int a), (2, .int b), (3, .int (nI i))] := hl
  obtain ⟨hMi, hsz⟩ := hI
  have hx0 : Mi x = some (.inr (2, [.int 0, .int (nI n), .int (nI mb), .ref sz, .ref (sz + 1), .ref (sz + 2), .ref (sz + 3), .ref (sz + 4), .ref (sz + 5), .int 0, .ref (sz + 6), .ref (sz + 7), .ref (sz + 8), .ref (sz + 9), .ref (sz + 10), .ref (sz + 11), .int 0, .int 0, .int 0, .int 0, .ref (sz + 12), .int 0])) := by rw [hMi, zw_un _ _ (by omega)]; exact hx0
  have hdn : Mi sz = some (.inl (G.2.1 2, 8, .inl (fun _ => nI 0))) := by rw [hMi, zw_un _ _ (by omega)]; exact hdn
  have hmd : Mi (sz + 1) = some (.inl (G.2.1 0, 8, .inl (fun _ => nI 0))) := by rw [hMi, zw_un _ _ (by omega)]; exact hmd
  have hwt : Mi (sz + 2) = some (.inl (G.2.1 0, 488, .inl (fun _ => nI 0))) := by rw [hMi, zw_un _ _ (by omega)]; exact hwt
  have hhas : Mi (sz + 3) = some (.inl (G.2.1 0, 3840, .inl (fun _ => nI 0))) := by rw [hMi, zw_un _ _ (by omega)]; exact hhas
  have hmn : Mi (sz + 4) = some (.inl (G.2.1 0, 8, .inl (fun _ => nI 0))) := by rw [hMi, zw_un _ _ (by omega)]; exact hmn
  have hnu : Mi (sz + 6) = some (.inl (G.2.1 0, 120, .inl (fun _ => nI 0))) := by rw [hMi, zw_un _ _ (by omega)]; exact hnu
  have hfr : Mi (sz + 7) = some (.inl (G.2.1 0, 120, .inl (fun _ => nI 0))) := by rw [hMi, zw_un _ _ (by omega)]; exact hfr
  have hto : Mi (sz + 8) = some (.inl (G.2.1 0, 120, .inl (fun _ => nI 0))) := by rw [hMi, zw_un _ _ (by omega)]; exact hto
  have hsi : Mi (sz + 9) = some (.inl (G.2.1 0, 120, .inl (fun _ => nI 0))) := by rw [hMi, zw_un _ _ (by omega)]; exact hsi
  have hcl : Mi (sz + 10) = some (.inl (G.2.1 1, 120, .inr (.inl (fun _ => 0)))) := by rw [hMi, zw_un _ _ (by omega)]; exact hcl
  have hins : Mi (sz + 11) = some (.inl (G.2.1 0, 57600, .inl (fun _ => nI 0))) := by rw [hMi, zw_un _ _ (by omega)]; exact hins
  have hpart : Mi (sz + 12) = some (.inl (G.2.1 0, 480, .inl (fun _ => nI 0))) := by rw [hMi, zw_un _ _ (by omega)]; exact hpart
  have hrw : Mi (sz + 5) = some (.inl (G.2.1 0, 120, .inl (fun a9 => nI (if a9 < i then a9 else 0)))) := by rw [hMi]; exact zw_us _ _ _
  refine lv_iload_n hx hb dR_init_167 rfl (lv_at hl 3 rfl) ?_
  refine lv_bipush (v := nI 120) hx hb dR_init_168 (by decide) ?_
  refine zc_ge (tgt := 186) hx hb dR_init_170 (by decide) (by omega) (by decide) (fun b1 => ?_) (fun b1 => ?_)
  · have e1 : 120 = i := by omega
    subst e1
    have hkf2 : ∀ q : Nat, q ≠ x → q < sz → Mi q = M q := fun q h1 h2 => by rw [hMi, zw_un _ _ (by omega)]; exact hkf q h1 h2
    exact W.vret hx hb hr (fun t ht hW => ⟨⟨(Mi, (sz + 13)), rfl, ⟨rfl, ⟨hxs, hx0, hdn, hmd, hwt, hhas, hmn, hrw, hnu, hfr, hto, hsi, hcl, hins, hpart, fun i h => by show (if i < 120 then i else 0) < 120; rw [if_pos h]; exact h, fun i j h1 h2 h => by have h : (if i < 120 then i else 0) = (if j < 120 then j else 0) := h; rw [if_pos h1, if_pos h2] at h; exact h, fun i mg h => by cases h⟩, hkf2⟩, by rw [ht]; exact hH, by rw [ht]; exact hsz⟩, hS.F ht⟩) hS.2.2 dR_init_186
  · refine lv_aload_n hx hb dR_init_173 rfl (lv_at hl 0 rfl) ?_
    refine va_get (D := G.1) (ci := 2) (v := .ref (sz + 5)) (C := RR) (T := TR) (N := 22) hx hb hz iR hown hK (hH.one hx0) 0 rfl rfl 8 (by decide) (hz _ zm_396) (fun _ h9 => h9) rfl dR_init_174 ?_
    refine lv_iload_n hx hb dR_init_177 rfl (lv_at hl 3 rfl) ?_
    refine lv_iload_n hx hb dR_init_178 rfl (lv_at hl 3 rfl) ?_
    refine zw_iast hx hb hK hH hS 0 hrw rfl (i) rfl (by omega) (by decide) dR_init_179 (fun H29 L29 hH hz1 hS => ?_)
    have hsz : H29.size = sz + 13 := hz1.trans hsz
    obtain ⟨M1, hM1⟩ : ∃ Mq, Mq = zw_u Mi (sz + 5) (.inl (G.2.1 0, 120, .inl (upd (fun a9 => nI (if a9 < i then a9 else 0)) i (nI i)))) := ⟨_, rfl⟩
    have hH : zw_H G.1 zCl B M1 H29 := by rw [hM1]; exact hH
    have hx0 : M1 x = some (.inr (2, [.int 0, .int (nI n), .int (nI mb), .ref sz, .ref (sz + 1), .ref (sz + 2), .ref (sz + 3), .ref (sz + 4), .ref (sz + 5), .int 0, .ref (sz + 6), .ref (sz + 7), .ref (sz + 8), .ref (sz + 9), .ref (sz + 10), .ref (sz + 11), .int 0, .int 0, .int 0, .int 0, .ref (sz + 12), .int 0])) := by rw [hM1, zw_un _ _ (by omega)]; exact hx0
    have hdn : M1 sz = some (.inl (G.2.1 2, 8, .inl (fun _ => nI 0))) := by rw [hM1, zw_un _ _ (by omega)]; exact hdn
    have hmd : M1 (sz + 1) = some (.inl (G.2.1 0, 8, .inl (fun _ => nI 0))) := by rw [hM1, zw_un _ _ (by omega)]; exact hmd
    have hwt : M1 (sz + 2) = some (.inl (G.2.1 0, 488, .inl (fun _ => nI 0))) := by rw [hM1, zw_un _ _ (by omega)]; exact hwt
    have hhas : M1 (sz + 3) = some (.inl (G.2.1 0, 3840, .inl (fun _ => nI 0))) := by rw [hM1, zw_un _ _ (by omega)]; exact hhas
    have hmn : M1 (sz + 4) = some (.inl (G.2.1 0, 8, .inl (fun _ => nI 0))) := by rw [hM1, zw_un _ _ (by omega)]; exact hmn
    have hnu : M1 (sz + 6) = some (.inl (G.2.1 0, 120, .inl (fun _ => nI 0))) := by rw [hM1, zw_un _ _ (by omega)]; exact hnu
    have hfr : M1 (sz + 7) = some (.inl (G.2.1 0, 120, .inl (fun _ => nI 0))) := by rw [hM1, zw_un _ _ (by omega)]; exact hfr
    have hto : M1 (sz + 8) = some (.inl (G.2.1 0, 120, .inl (fun _ => nI 0))) := by rw [hM1, zw_un _ _ (by omega)]; exact hto
    have hsi : M1 (sz + 9) = some (.inl (G.2.1 0, 120, .inl (fun _ => nI 0))) := by rw [hM1, zw_un _ _ (by omega)]; exact hsi
    have hcl : M1 (sz + 10) = some (.inl (G.2.1 1, 120, .inr (.inl (fun _ => 0)))) := by rw [hM1, zw_un _ _ (by omega)]; exact hcl
    have hins : M1 (sz + 11) = some (.inl (G.2.1 0, 57600, .inl (fun _ => nI 0))) := by rw [hM1, zw_un _ _ (by omega)]; exact hins
    have hpart : M1 (sz + 12) = some (.inl (G.2.1 0, 480, .inl (fun _ => nI 0))) := by rw [hM1, zw_un _ _ (by omega)]; exact hpart
    have hrw : M1 (sz + 5) = some (.inl (G.2.1 0, 120, .inl (upd (fun a9 => nI (if a9 < i then a9 else 0)) i (nI i)))) := by rw [hM1]; exact zw_us _ _ _
    refine lv_iinc (v := (nI (i + 1))) (lv' := [(3, .int (nI (i + 1))), (0, .ref x), (1, .int a), (2, .int b)]) hx hb dR_init_180 hl (k := 3) rfl (nI_add _ _) (by decide) rfl (fun ls hl => ?_)
    refine lv_goto (tgt := 167) hx hb dR_init_183 (by decide) ?_
    exact ih b1 ls H29 _ ⟨lv_sub hl [1, 2, 3, 0] rfl, M1, hH, hS, ⟨by rw [hM1, hMi, zw_uu, zid_u], hsz⟩⟩

