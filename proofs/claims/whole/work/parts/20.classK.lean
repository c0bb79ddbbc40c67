/-! THE CLASS: its constructor -/
def z0 : zSt := zSt.mk (fun _ => false) (fun _ => []) (fun _ => []) [] 0 0 0 0
theorem zck_nil : zck [] = 0 := by decide
set_option maxHeartbeats 4000000 in
set_option maxRecDepth 100000 in
theorem kC_init (l : Launch) (G : zG) (B : Nat) (M : zw_M) (sz : Nat) (x : Nat) (a b : Int32) (hx0 : M x = some (.inr (1, [.int 0, .int 0, .null, .null, .null, .null, .null, .null, .int 0, .null, .int 0, .int 0, .int 0, .int 0]))) : Met l yC_init (Cond.code yC_init bC_init 4 none :: zT) { frames := 1, cells := 23, slots := 5000, locals := 40 } (zq G B M sz [.ref x, .int a, .int b]) (va_Qv (fun (u : zw_M × Nat) => u.2 = sz + 7 + 2 * zcl 2 8 a ∧ (∀ L, sz + 6 + 2 * zcl 2 8 a ≤ L → ∃ g, zCR G u.1 x sz L (zcl 2 8 a) (zcl 16 2000 b) z0 [] g) ∧ ∀ q : Nat, q ≠ x → q < sz → u.1 q = M q) (zr_o G.1 zCl B) (zw_A B)) (23) (5000) (zw_A B) := by
  refine Met.ofW (cc := bC_init) (maxL := 4) (ret := none) (by decide) rfl ?_
  intro p e s m args below meth c s₁ B0 hml hv
  obtain ⟨rfl, hE, hH, hsz⟩ := hv
  have hx := B0.exec
  have hb := B0.bytes
  have hr := B0.returns
  have hlocks := B0.notSynchronized
  have hz : ∀ w ∈ zT, w.before _ s = true := fun w h => atoms_spec (ws := Cond.code yC_init bC_init 4 none :: zT) B0.pre w (List.mem_cons_of_mem _ h)
  have hown : s.vm.findClass RC = some m.cls := findClass_of_methodNamed B0.named
  have hK := hE.1
  have hl := lv_entry ([.ref x, .int a, .int b]) (n := 4) (Nat.le_of_ble_eq_true rfl)
  rw [lg_entry_eq]
  generalize (lg_sl ([.ref x, .int a, .int b]) ++ List.replicate (4 - (lg_sl ([.ref x, .int a, .int b])).length) Slot.unset).toArray = ls at hl ⊢
  have hl : lv_has ls 4 [(0, .ref x), (1, .int a), (2, .int b)] := hl
  have hS : va_S (zw_A B) s.heap s.heap [] := va_S.rf
  have hin : meth.name = "<init>" := (name_of_methodNamed B0.named B0.method).1
  have hlt0 : ∀ (a : Nat) (e : va_E), M a = some e → a < sz := fun a e h => by rw [← hsz]; exact hH.lt h
  obtain ⟨n, hnd⟩ : ∃ q, q = zcl 2 8 a := ⟨_, rfl⟩
  obtain ⟨mb, hmd⟩ : ∃ q, q = zcl 16 2000 b := ⟨_, rfl⟩
  have hcl := zcl_in (lo := 2) (hi := 8) (by decide) (by decide) a
  have hcm := zcl_max (lo := 2) (hi := 8) (by decide) (by decide) a
  have hcm2 := zcl_max (lo := 16) (hi := 2000) (by decide) (by decide) b
  rw [← hnd] at hcl hcm
  rw [← hmd] at hcm2
  rw [← hnd, ← hmd]
  have hn2 := hcl.1
  have hn8 := hcl.2.1
  have hnn : n * (n * 60) ≤ 8 * 480 := Nat.mul_le_mul hn8 (by omega)
  have hxs := hlt0 x _ hx0
  refine lv_aload_n hx hb dC_init_0 rfl (lv_at hl 0 rfl) ?_
  refine W.objInit hx hb hown (hz _ zm_18) (hz _ zm_19) (hz _ zm_20) rfl (by rw [hml]; exact hl.1) rfl dC_init_1 (Nat.le_of_ble_eq_true rfl) (Nat.le_of_ble_eq_true rfl) ?_
  refine lv_aload_n hx hb dC_init_4 rfl (lv_at hl 0 rfl) ?_
  refine lv_iconst (v := nI 2) hx hb dC_init_5 (by decide) ?_
  refine lv_bipush (v := nI 8) hx hb dC_init_6 (by decide) ?_
  refine lv_iload_n hx hb dC_init_8 rfl (lv_at hl 1 rfl) ?_
  refine va_mmin hx hb (by rw [hml]; exact hl.1.symm) hown (hz _ zm_21) (hz _ zm_22) (hz _ zm_2) (hz _ zm_23) (Nat.le_of_ble_eq_true rfl) (Nat.le_of_ble_eq_true rfl) (Nat.zero_le _) (Nat.zero_le _) dC_init_9 ?_
  refine va_mmax hx hb (by rw [hml]; exact hl.1.symm) hown (hz _ zm_24) (hz _ zm_25) (hz _ zm_2) (hz _ zm_26) (Nat.le_of_ble_eq_true rfl) (Nat.le_of_ble_eq_true rfl) (Nat.zero_le _) (Nat.zero_le _) dC_init_12 ?_
  refine zw_ti hcm ?_
  refine zw_putF (D := G.1) (ci := 1) (v := .int (nI n)) (ty := .int) (C := RC) (T := TC) (N := 14) hx hb hz iC tC tC_ok nC hown hK hH hS hx0 rfl 0 (by decide) (hz _ zm_31) (fun _ h9 => h9) rfl hin rfl (by decide +kernel) rfl rfl (Nat.le_of_ble_eq_true rfl) dC_init_15 (fun H1 L1 hH hz1 hS => ?_)
  have hsz : H1.size = _ := hz1.trans hsz
  obtain ⟨M1, hM1⟩ : ∃ Mq, Mq = zw_u M x (.inr (1, [.int (nI n), .int 0, .null, .null, .null, .null, .null, .null, .int 0, .null, .int 0, .int 0, .int 0, .int 0])) := ⟨_, rfl⟩
  have hH : zw_H G.1 zCl B M1 H1 := by rw [hM1]; exact hH
  have hx0 : M1 x = some (.inr (1, [.int (nI n), .int 0, .null, .null, .null, .null, .null, .null, .int 0, .null, .int 0, .int 0, .int 0, .int 0])) := by rw [hM1]; exact zw_us _ _ _
  refine lv_aload_n hx hb dC_init_18 rfl (lv_at hl 0 rfl) ?_
  refine lv_bipush (v := nI 16) hx hb dC_init_19 (by decide) ?_
  refine lv_sipush (v := nI 2000) hx hb dC_init_21 (by decide) ?_
  refine lv_iload_n hx hb dC_init_24 rfl (lv_at hl 2 rfl) ?_
  refine va_mmin hx hb (by rw [hml]; exact hl.1.symm) hown (hz _ zm_21) (hz _ zm_22) (hz _ zm_2) (hz _ zm_23) (Nat.le_of_ble_eq_true rfl) (Nat.le_of_ble_eq_true rfl) (Nat.zero_le _) (Nat.zero_le _) dC_init_25 ?_
  refine va_mmax hx hb (by rw [hml]; exact hl.1.symm) hown (hz _ zm_24) (hz _ zm_25) (hz _ zm_2) (hz _ zm_26) (Nat.le_of_ble_eq_true rfl) (Nat.le_of_ble_eq_true rfl) (Nat.zero_le _) (Nat.zero_le _) dC_init_28 ?_
  refine zw_ti hcm2 ?_
  refine zw_putF (D := G.1) (ci := 1) (v := .int (nI mb)) (ty := .int) (C := RC) (T := TC) (N := 14) hx hb hz iC tC tC_ok nC hown hK hH hS hx0 rfl 1 (by decide) (hz _ zm_32) (fun _ h9 => h9) rfl hin rfl (by decide +kernel) rfl rfl (Nat.le_of_ble_eq_true rfl) dC_init_31 (fun H2 L2 hH hz1 hS => ?_)
  have hsz : H2.size = _ := hz1.trans hsz
  obtain ⟨M2, hM2⟩ : ∃ Mq, Mq = zw_u M1 x (.inr (1, [.int (nI n), .int (nI mb), .null, .null, .null, .null, .null, .null, .int 0, .null, .int 0, .int 0, .int 0, .int 0])) := ⟨_, rfl⟩
  have hH : zw_H G.1 zCl B M2 H2 := by rw [hM2]; exact hH
  have hx0 : M2 x = some (.inr (1, [.int (nI n), .int (nI mb), .null, .null, .null, .null, .null, .null, .int 0, .null, .int 0, .int 0, .int 0, .int 0])) := by rw [hM2]; exact zw_us _ _ _
  refine lv_aload_n hx hb dC_init_34 rfl (lv_at hl 0 rfl) ?_
  refine va_get (D := G.1) (ci := 1) (v := .int (nI n)) (C := RC) (T := TC) (N := 14) hx hb hz iC hown hK (hH.one hx0) 0 rfl rfl 0 (by decide) (hz _ zm_31) (fun _ h9 => h9) rfl dC_init_35 ?_
  refine lv_bipush (v := nI 60) hx hb dC_init_38 (by decide) ?_
  refine lv_imul hx hb dC_init_40 ?_
  refine zw_ti (pk_mul _ _) ?_
  refine lv_istore_n (lv' := [(3, .int (nI (n * 60))), (0, .ref x), (1, .int a), (2, .int b)]) hx hb dC_init_41 rfl hl (by decide) rfl (fun ls hl => ?_)
  refine lv_aload_n hx hb dC_init_42 rfl (lv_at hl 1 rfl) ?_
  refine lv_aload_n hx hb dC_init_43 rfl (lv_at hl 1 rfl) ?_
  refine va_get (D := G.1) (ci := 1) (v := .int (nI n)) (C := RC) (T := TC) (N := 14) hx hb hz iC hown hK (hH.one hx0) 0 rfl rfl 0 (by decide) (hz _ zm_31) (fun _ h9 => h9) rfl dC_init_44 ?_
  refine zw_newa (atype := .boolean) (cA := G.2.1 2) (a0 := (n, .inl (fun _ => nI 0))) hx hb (hz _ zm_74) hK hH hS (Nat.le_trans hE.2.1 hS.1) 2 rfl rfl rfl (by omega) (by show _ + 1 ≤ 23; omega) (by show _ + _ ≤ 5000; omega) dC_init_47 (fun H3 hH hz1 hS => ?_)
  rw [hsz] at hH hz1 ⊢
  have hsz : H3.size = sz + 1 := by omega
  obtain ⟨M3, hM3⟩ : ∃ Mq, Mq = zw_u M2 sz (.inl (G.2.1 2, n, .inl (fun _ => nI 0))) := ⟨_, rfl⟩
  have hH : zw_H G.1 zCl B M3 H3 := by rw [hM3]; exact hH
  have hx0 : M3 x = some (.inr (1, [.int (nI n), .int (nI mb), .null, .null, .null, .null, .null, .null, .int 0, .null, .int 0, .int 0, .int 0, .int 0])) := by rw [hM3, zw_un _ _ (by omega)]; exact hx0
  have hdn : M3 sz = some (.inl (G.2.1 2, n, .inl (fun _ => nI 0))) := by rw [hM3]; exact zw_us _ _ _
  refine zw_putF (D := G.1) (ci := 1) (v := .ref sz) (ty := (.array .boolean)) (C := RC) (T := TC) (N := 14) hx hb hz iC tC tC_ok nC hown hK hH hS hx0 rfl 2 (by decide) (hz _ zm_33) (fun _ h9 => h9) rfl hin rfl (by decide +kernel) rfl rfl (Nat.le_of_ble_eq_true rfl) dC_init_49 (fun H4 L4 hH hz1 hS => ?_)
  have hsz : H4.size = _ := hz1.trans hsz
  obtain ⟨M4, hM4⟩ : ∃ Mq, Mq = zw_u M3 x (.inr (1, [.int (nI n), .int (nI mb), .ref sz, .null, .null, .null, .null, .null, .int 0, .null, .int 0, .int 0, .int 0, .int 0])) := ⟨_, rfl⟩
  have hH : zw_H G.1 zCl B M4 H4 := by rw [hM4]; exact hH
  have hdn : M4 sz = some (.inl (G.2.1 2, n, .inl (fun _ => nI 0))) := by rw [hM4, zw_un _ _ (by omega)]; exact hdn
  have hx0 : M4 x = some (.inr (1, [.int (nI n), .int (nI mb), .ref sz, .null, .null, .null, .null, .null, .int 0, .null, .int 0, .int 0, .int 0, .int 0])) := by rw [hM4]; exact zw_us _ _ _
  refine lv_aload_n hx hb dC_init_52 rfl (lv_at hl 1 rfl) ?_
  refine lv_aload_n hx hb dC_init_53 rfl (lv_at hl 1 rfl) ?_
  refine va_get (D := G.1) (ci := 1) (v := .int (nI n)) (C := RC) (T := TC) (N := 14) hx hb hz iC hown hK (hH.one hx0) 0 rfl rfl 0 (by decide) (hz _ zm_31) (fun _ h9 => h9) rfl dC_init_54 ?_
  refine zw_newa (atype := .long) (cA := G.2.1 1) (a0 := (n, .inr (.inl (fun _ => 0)))) hx hb (hz _ zm_75) hK hH hS (Nat.le_trans hE.2.1 hS.1) 1 rfl rfl rfl (by omega) (by show _ + 1 ≤ 23; omega) (by show _ + _ ≤ 5000; omega) dC_init_57 (fun H5 hH hz1 hS => ?_)
  rw [hsz] at hH hz1 ⊢
  have hsz : H5.size = sz + 2 := by omega
  obtain ⟨M5, hM5⟩ : ∃ Mq, Mq = zw_u M4 (sz + 1) (.inl (G.2.1 1, n, .inr (.inl (fun _ => 0)))) := ⟨_, rfl⟩
  have hH : zw_H G.1 zCl B M5 H5 := by rw [hM5]; exact hH
  have hx0 : M5 x = some (.inr (1, [.int (nI n), .int (nI mb), .ref sz, .null, .null, .null, .null, .null, .int 0, .null, .int 0, .int 0, .int 0, .int 0])) := by rw [hM5, zw_un _ _ (by omega)]; exact hx0
  have hdn : M5 sz = some (.inl (G.2.1 2, n, .inl (fun _ => nI 0))) := by rw [hM5, zw_un _ _ (by omega)]; exact hdn
  have hck : M5 (sz + 1) = some (.inl (G.2.1 1, n, .inr (.inl (fun _ => 0)))) := by rw [hM5]; exact zw_us _ _ _
  refine zw_putF (D := G.1) (ci := 1) (v := .ref (sz + 1)) (ty := (.array .long)) (C := RC) (T := TC) (N := 14) hx hb hz iC tC tC_ok nC hown hK hH hS hx0 rfl 3 (by decide) (hz _ zm_34) (fun _ h9 => h9) rfl hin rfl (by decide +kernel) rfl rfl (Nat.le_of_ble_eq_true rfl) dC_init_59 (fun H6 L6 hH hz1 hS => ?_)
  have hsz : H6.size = _ := hz1.trans hsz
  obtain ⟨M6, hM6⟩ : ∃ Mq, Mq = zw_u M5 x (.inr (1, [.int (nI n), .int (nI mb), .ref sz, .ref (sz + 1), .null, .null, .null, .null, .int 0, .null, .int 0, .int 0, .int 0, .int 0])) := ⟨_, rfl⟩
  have hH : zw_H G.1 zCl B M6 H6 := by rw [hM6]; exact hH
  have hdn : M6 sz = some (.inl (G.2.1 2, n, .inl (fun _ => nI 0))) := by rw [hM6, zw_un _ _ (by omega)]; exact hdn
  have hck : M6 (sz + 1) = some (.inl (G.2.1 1, n, .inr (.inl (fun _ => 0)))) := by rw [hM6, zw_un _ _ (by omega)]; exact hck
  have hx0 : M6 x = some (.inr (1, [.int (nI n), .int (nI mb), .ref sz, .ref (sz + 1), .null, .null, .null, .null, .int 0, .null, .int 0, .int 0, .int 0, .int 0])) := by rw [hM6]; exact zw_us _ _ _
  refine lv_aload_n hx hb dC_init_62 rfl (lv_at hl 1 rfl) ?_
  refine lv_aload_n hx hb dC_init_63 rfl (lv_at hl 1 rfl) ?_
  refine va_get (D := G.1) (ci := 1) (v := .int (nI n)) (C := RC) (T := TC) (N := 14) hx hb hz iC hown hK (hH.one hx0) 0 rfl rfl 0 (by decide) (hz _ zm_31) (fun _ h9 => h9) rfl dC_init_64 ?_
  refine lv_iload_n hx hb dC_init_67 rfl (lv_at hl 0 rfl) ?_
  refine zw_multi hx hb hown (hz _ zm_27) hE.2.2.2.2.2.1 (hz _ zm_76) hK hH hS (Nat.le_trans hE.2.1 hS.1) 0 4 rfl rfl dC_init_68 (by omega) (by omega) (by show _ + (1 + n) ≤ 23; omega) (by show _ + (n + n * _) ≤ 5000; omega) (fun H7 hH hz1 hS => ?_)
  rw [hsz] at hH hz1 ⊢
  have hsz : H7.size = sz + 3 + n := by omega
  obtain ⟨M7, hM7⟩ : ∃ Mq, Mq = zw_rows M6 (sz + 2 + 1) n (.inl (G.2.1 0, n * 60, .inl (fun _ => nI 0))) := ⟨_, rfl⟩
  rw [← hM7] at hH
  have hx0 : M7 x = some (.inr (1, [.int (nI n), .int (nI mb), .ref sz, .ref (sz + 1), .null, .null, .null, .null, .int 0, .null, .int 0, .int 0, .int 0, .int 0])) := by rw [hM7, zw_rout _ _ (by omega)]; exact hx0
  have hdn : M7 sz = some (.inl (G.2.1 2, n, .inl (fun _ => nI 0))) := by rw [hM7, zw_rout _ _ (by omega)]; exact hdn
  have hck : M7 (sz + 1) = some (.inl (G.2.1 1, n, .inr (.inl (fun _ => 0)))) := by rw [hM7, zw_rout _ _ (by omega)]; exact hck
  have hrw : ∀ i, i < n → M7 (sz + 3 + i) = some (.inl (G.2.1 0, n * 60, .inl (fun _ => nI 0))) := fun i hi => by rw [hM7]; exact zw_rin _ _ (by omega) (by omega)
  obtain ⟨M8, hM8⟩ : ∃ Mq, Mq = zw_u M7 (sz + 2) (.inl (G.2.1 4, n, .inr (.inr (.inr (.inr (fun i => some (sz + 2 + 1 + i))))))) := ⟨_, rfl⟩
  have hH : zw_H G.1 zCl B M8 H7 := by rw [hM8]; exact hH
  have hx0 : M8 x = some (.inr (1, [.int (nI n), .int (nI mb), .ref sz, .ref (sz + 1), .null, .null, .null, .null, .int 0, .null, .int 0, .int 0, .int 0, .int 0])) := by rw [hM8, zw_un _ _ (by omega)]; exact hx0
  have hdn : M8 sz = some (.inl (G.2.1 2, n, .inl (fun _ => nI 0))) := by rw [hM8, zw_un _ _ (by omega)]; exact hdn
  have hck : M8 (sz + 1) = some (.inl (G.2.1 1, n, .inr (.inl (fun _ => 0)))) := by rw [hM8, zw_un _ _ (by omega)]; exact hck
  have hrw : ∀ i, i < n → M8 (sz + 3 + i) = some (.inl (G.2.1 0, n * 60, .inl (fun _ => nI 0))) := fun i hi => by rw [hM8, zw_un _ _ (by omega)]; exact hrw i hi
  have hlgs : M8 (sz + 2) = some (.inl (G.2.1 4, n, .inr (.inr (.inr (.inr (fun i => some (sz + 2 + 1 + i))))))) := by rw [hM8]; exact zw_us _ _ _
  refine zw_putF (D := G.1) (ci := 1) (v := .ref (sz + 2)) (ty := (.array (.array .int))) (C := RC) (T := TC) (N := 14) hx hb hz iC tC tC_ok nC hown hK hH hS hx0 rfl 4 (by decide) (hz _ zm_35) (fun _ h9 => h9) rfl hin rfl (by decide +kernel) rfl rfl (Nat.le_of_ble_eq_true rfl) dC_init_72 (fun H8 L8 hH hz1 hS => ?_)
  have hsz : H8.size = _ := hz1.trans hsz
  obtain ⟨M9, hM9⟩ : ∃ Mq, Mq = zw_u M8 x (.inr (1, [.int (nI n), .int (nI mb), .ref sz, .ref (sz + 1), .ref (sz + 2), .null, .null, .null, .int 0, .null, .int 0, .int 0, .int 0, .int 0])) := ⟨_, rfl⟩
  have hH : zw_H G.1 zCl B M9 H8 := by rw [hM9]; exact hH
  have hdn : M9 sz = some (.inl (G.2.1 2, n, .inl (fun _ => nI 0))) := by rw [hM9, zw_un _ _ (by omega)]; exact hdn
  have hck : M9 (sz + 1) = some (.inl (G.2.1 1, n, .inr (.inl (fun _ => 0)))) := by rw [hM9, zw_un _ _ (by omega)]; exact hck
  have hlgs : M9 (sz + 2) = some (.inl (G.2.1 4, n, .inr (.inr (.inr (.inr (fun i => some (sz + 2 + 1 + i))))))) := by rw [hM9, zw_un _ _ (by omega)]; exact hlgs
  have hrw : ∀ i, i < n → M9 (sz + 3 + i) = some (.inl (G.2.1 0, n * 60, .inl (fun _ => nI 0))) := fun i hi => by rw [hM9, zw_un _ _ (by omega)]; exact hrw i hi
  have hx0 : M9 x = some (.inr (1, [.int (nI n), .int (nI mb), .ref sz, .ref (sz + 1), .ref (sz + 2), .null, .null, .null, .int 0, .null, .int 0, .int 0, .int 0, .int 0])) := by rw [hM9]; exact zw_us _ _ _
  refine lv_aload_n hx hb dC_init_75 rfl (lv_at hl 1 rfl) ?_
  refine lv_aload_n hx hb dC_init_76 rfl (lv_at hl 1 rfl) ?_
  refine va_get (D := G.1) (ci := 1) (v := .int (nI n)) (C := RC) (T := TC) (N := 14) hx hb hz iC hown hK (hH.one hx0) 0 rfl rfl 0 (by decide) (hz _ zm_31) (fun _ h9 => h9) rfl dC_init_77 ?_
  refine zw_newa (atype := .int) (cA := G.2.1 0) (a0 := (n, .inl (fun _ => nI 0))) hx hb (hz _ zm_76) hK hH hS (Nat.le_trans hE.2.1 hS.1) 0 rfl rfl rfl (by omega) (by show _ + 1 ≤ 23; omega) (by show _ + _ ≤ 5000; omega) dC_init_80 (fun H9 hH hz1 hS => ?_)
  rw [hsz] at hH hz1 ⊢
  have hsz : H9.size = sz + 4 + n := by omega
  obtain ⟨M10, hM10⟩ : ∃ Mq, Mq = zw_u M9 (sz + 3 + n) (.inl (G.2.1 0, n, .inl (fun _ => nI 0))) := ⟨_, rfl⟩
  have hH : zw_H G.1 zCl B M10 H9 := by rw [hM10]; exact hH
  have hx0 : M10 x = some (.inr (1, [.int (nI n), .int (nI mb), .ref sz, .ref (sz + 1), .ref (sz + 2), .null, .null, .null, .int 0, .null, .int 0, .int 0, .int 0, .int 0])) := by rw [hM10, zw_un _ _ (by omega)]; exact hx0
  have hdn : M10 sz = some (.inl (G.2.1 2, n, .inl (fun _ => nI 0))) := by rw [hM10, zw_un _ _ (by omega)]; exact hdn
  have hck : M10 (sz + 1) = some (.inl (G.2.1 1, n, .inr (.inl (fun _ => 0)))) := by rw [hM10, zw_un _ _ (by omega)]; exact hck
  have hlgs : M10 (sz + 2) = some (.inl (G.2.1 4, n, .inr (.inr (.inr (.inr (fun i => some (sz + 2 + 1 + i))))))) := by rw [hM10, zw_un _ _ (by omega)]; exact hlgs
  have hrw : ∀ i, i < n → M10 (sz + 3 + i) = some (.inl (G.2.1 0, n * 60, .inl (fun _ => nI 0))) := fun i hi => by rw [hM10, zw_un _ _ (by omega)]; exact hrw i hi
  have hlz : M10 (sz + 3 + n) = some (.inl (G.2.1 0, n, .inl (fun _ => nI 0))) := by rw [hM10]; exact zw_us _ _ _
  refine zw_putF (D := G.1) (ci := 1) (v := .ref (sz + 3 + n)) (ty := (.array .int)) (C := RC) (T := TC) (N := 14) hx hb hz iC tC tC_ok nC hown hK hH hS hx0 rfl 5 (by decide) (hz _ zm_36) (fun _ h9 => h9) rfl hin rfl (by decide +kernel) rfl rfl (Nat.le_of_ble_eq_true rfl) dC_init_82 (fun H10 L10 hH hz1 hS => ?_)
  have hsz : H10.size = _ := hz1.trans hsz
  obtain ⟨M11, hM11⟩ : ∃ Mq, Mq = zw_u M10 x (.inr (1, [.int (nI n), .int (nI mb), .ref sz, .ref (sz + 1), .ref (sz + 2), .ref (sz + 3 + n), .null, .null, .int 0, .null, .int 0, .int 0, .int 0, .int 0])) := ⟨_, rfl⟩
  have hH : zw_H G.1 zCl B M11 H10 := by rw [hM11]; exact hH
  have hdn : M11 sz = some (.inl (G.2.1 2, n, .inl (fun _ => nI 0))) := by rw [hM11, zw_un _ _ (by omega)]; exact hdn
  have hck : M11 (sz + 1) = some (.inl (G.2.1 1, n, .inr (.inl (fun _ => 0)))) := by rw [hM11, zw_un _ _ (by omega)]; exact hck
  have hlgs : M11 (sz + 2) = some (.inl (G.2.1 4, n, .inr (.inr (.inr (.inr (fun i => some (sz + 2 + 1 + i))))))) := by rw [hM11, zw_un _ _ (by omega)]; exact hlgs
  have hlz : M11 (sz + 3 + n) = some (.inl (G.2.1 0, n, .inl (fun _ => nI 0))) := by rw [hM11, zw_un _ _ (by omega)]; exact hlz
  have hrw : ∀ i, i < n → M11 (sz + 3 + i) = some (.inl (G.2.1 0, n * 60, .inl (fun _ => nI 0))) := fun i hi => by rw [hM11, zw_un _ _ (by omega)]; exact hrw i hi
  have hx0 : M11 x = some (.inr (1, [.int (nI n), .int (nI mb), .ref sz, .ref (sz + 1), .ref (sz + 2), .ref (sz + 3 + n), .null, .null, .int 0, .null, .int 0, .int 0, .int 0, .int 0])) := by rw [hM11]; exact zw_us _ _ _
  refine lv_aload_n hx hb dC_init_85 rfl (lv_at hl 1 rfl) ?_
  refine lv_aload_n hx hb dC_init_86 rfl (lv_at hl 1 rfl) ?_
  refine va_get (D := G.1) (ci := 1) (v := .int (nI n)) (C := RC) (T := TC) (N := 14) hx hb hz iC hown hK (hH.one hx0) 0 rfl rfl 0 (by decide) (hz _ zm_31) (fun _ h9 => h9) rfl dC_init_87 ?_
  refine lv_bipush (v := nI 60) hx hb dC_init_90 (by decide) ?_
  refine zw_multi hx hb hown (hz _ zm_27) hE.2.2.2.2.2.1 (hz _ zm_76) hK hH hS (Nat.le_trans hE.2.1 hS.1) 0 4 rfl rfl dC_init_92 (by omega) (by omega) (by show _ + (1 + n) ≤ 23; omega) (by show _ + (n + n * _) ≤ 5000; omega) (fun H11 hH hz1 hS => ?_)
  rw [hsz] at hH hz1 ⊢
  have hsz : H11.size = sz + 5 + 2 * n := by omega
  obtain ⟨M12, hM12⟩ : ∃ Mq, Mq = zw_rows M11 (sz + 4 + n + 1) n (.inl (G.2.1 0, 60, .inl (fun _ => nI 0))) := ⟨_, rfl⟩
  rw [← hM12] at hH
  have hx0 : M12 x = some (.inr (1, [.int (nI n), .int (nI mb), .ref sz, .ref (sz + 1), .ref (sz + 2), .ref (sz + 3 + n), .null, .null, .int 0, .null, .int 0, .int 0, .int 0, .int 0])) := by rw [hM12, zw_rout _ _ (by omega)]; exact hx0
  have hdn : M12 sz = some (.inl (G.2.1 2, n, .inl (fun _ => nI 0))) := by rw [hM12, zw_rout _ _ (by omega)]; exact hdn
  have hck : M12 (sz + 1) = some (.inl (G.2.1 1, n, .inr (.inl (fun _ => 0)))) := by rw [hM12, zw_rout _ _ (by omega)]; exact hck
  have hlgs : M12 (sz + 2) = some (.inl (G.2.1 4, n, .inr (.inr (.inr (.inr (fun i => some (sz + 2 + 1 + i))))))) := by rw [hM12, zw_rout _ _ (by omega)]; exact hlgs
  have hlz : M12 (sz + 3 + n) = some (.inl (G.2.1 0, n, .inl (fun _ => nI 0))) := by rw [hM12, zw_rout _ _ (by omega)]; exact hlz
  have hrw : ∀ i, i < n → M12 (sz + 3 + i) = some (.inl (G.2.1 0, n * 60, .inl (fun _ => nI 0))) := fun i hi => by rw [hM12, zw_rout _ _ (by omega)]; exact hrw i hi
  have hww : ∀ i, i < n → M12 (sz + 5 + n + i) = some (.inl (G.2.1 0, 60, .inl (fun _ => nI 0))) := fun i hi => by rw [hM12]; exact zw_rin _ _ (by omega) (by omega)
  obtain ⟨M13, hM13⟩ : ∃ Mq, Mq = zw_u M12 (sz + 4 + n) (.inl (G.2.1 4, n, .inr (.inr (.inr (.inr (fun i => some (sz + 4 + n + 1 + i))))))) := ⟨_, rfl⟩
  have hH : zw_H G.1 zCl B M13 H11 := by rw [hM13]; exact hH
  have hx0 : M13 x = some (.inr (1, [.int (nI n), .int (nI mb), .ref sz, .ref (sz + 1), .ref (sz + 2), .ref (sz + 3 + n), .null, .null, .int 0, .null, .int 0, .int 0, .int 0, .int 0])) := by rw [hM13, zw_un _ _ (by omega)]; exact hx0
  have hdn : M13 sz = some (.inl (G.2.1 2, n, .inl (fun _ => nI 0))) := by rw [hM13, zw_un _ _ (by omega)]; exact hdn
  have hck : M13 (sz + 1) = some (.inl (G.2.1 1, n, .inr (.inl (fun _ => 0)))) := by rw [hM13, zw_un _ _ (by omega)]; exact hck
  have hlgs : M13 (sz + 2) = some (.inl (G.2.1 4, n, .inr (.inr (.inr (.inr (fun i => some (sz + 2 + 1 + i))))))) := by rw [hM13, zw_un _ _ (by omega)]; exact hlgs
  have hlz : M13 (sz + 3 + n) = some (.inl (G.2.1 0, n, .inl (fun _ => nI 0))) := by rw [hM13, zw_un _ _ (by omega)]; exact hlz
  have hrw : ∀ i, i < n → M13 (sz + 3 + i) = some (.inl (G.2.1 0, n * 60, .inl (fun _ => nI 0))) := fun i hi => by rw [hM13, zw_un _ _ (by omega)]; exact hrw i hi
  have hww : ∀ i, i < n → M13 (sz + 5 + n + i) = some (.inl (G.2.1 0, 60, .inl (fun _ => nI 0))) := fun i hi => by rw [hM13, zw_un _ _ (by omega)]; exact hww i hi
  have hwts : M13 (sz + 4 + n) = some (.inl (G.2.1 4, n, .inr (.inr (.inr (.inr (fun i => some (sz + 4 + n + 1 + i))))))) := by rw [hM13]; exact zw_us _ _ _
  refine zw_putF (D := G.1) (ci := 1) (v := .ref (sz + 4 + n)) (ty := (.array (.array .int))) (C := RC) (T := TC) (N := 14) hx hb hz iC tC tC_ok nC hown hK hH hS hx0 rfl 6 (by decide) (hz _ zm_37) (fun _ h9 => h9) rfl hin rfl (by decide +kernel) rfl rfl (Nat.le_of_ble_eq_true rfl) dC_init_96 (fun H12 L12 hH hz1 hS => ?_)
  have hsz : H12.size = _ := hz1.trans hsz
  obtain ⟨M14, hM14⟩ : ∃ Mq, Mq = zw_u M13 x (.inr (1, [.int (nI n), .int (nI mb), .ref sz, .ref (sz + 1), .ref (sz + 2), .ref (sz + 3 + n), .ref (sz + 4 + n), .null, .int 0, .null, .int 0, .int 0, .int 0, .int 0])) := ⟨_, rfl⟩
  have hH : zw_H G.1 zCl B M14 H12 := by rw [hM14]; exact hH
  have hdn : M14 sz = some (.inl (G.2.1 2, n, .inl (fun _ => nI 0))) := by rw [hM14, zw_un _ _ (by omega)]; exact hdn
  have hck : M14 (sz + 1) = some (.inl (G.2.1 1, n, .inr (.inl (fun _ => 0)))) := by rw [hM14, zw_un _ _ (by omega)]; exact hck
  have hlgs : M14 (sz + 2) = some (.inl (G.2.1 4, n, .inr (.inr (.inr (.inr (fun i => some (sz + 2 + 1 + i))))))) := by rw [hM14, zw_un _ _ (by omega)]; exact hlgs
  have hlz : M14 (sz + 3 + n) = some (.inl (G.2.1 0, n, .inl (fun _ => nI 0))) := by rw [hM14, zw_un _ _ (by omega)]; exact hlz
  have hwts : M14 (sz + 4 + n) = some (.inl (G.2.1 4, n, .inr (.inr (.inr (.inr (fun i => some (sz + 4 + n + 1 + i))))))) := by rw [hM14, zw_un _ _ (by omega)]; exact hwts
  have hrw : ∀ i, i < n → M14 (sz + 3 + i) = some (.inl (G.2.1 0, n * 60, .inl (fun _ => nI 0))) := fun i hi => by rw [hM14, zw_un _ _ (by omega)]; exact hrw i hi
  have hww : ∀ i, i < n → M14 (sz + 5 + n + i) = some (.inl (G.2.1 0, 60, .inl (fun _ => nI 0))) := fun i hi => by rw [hM14, zw_un _ _ (by omega)]; exact hww i hi
  have hx0 : M14 x = some (.inr (1, [.int (nI n), .int (nI mb), .ref sz, .ref (sz + 1), .ref (sz + 2), .ref (sz + 3 + n), .ref (sz + 4 + n), .null, .int 0, .null, .int 0, .int 0, .int 0, .int 0])) := by rw [hM14]; exact zw_us _ _ _
  refine lv_aload_n hx hb dC_init_99 rfl (lv_at hl 1 rfl) ?_
  refine lv_bipush (v := nI 120) hx hb dC_init_100 (by decide) ?_
  refine zw_newq hx hb hown (hz _ zm_29) hE.2.2.2.2.2.2.1 hK hH hS (Nat.le_trans hE.2.1 hS.1) 3 rfl (N' := 120) rfl (by decide) (by show _ + 1 ≤ 23; omega) (by show _ + _ ≤ 5000; omega) dC_init_102 (fun H13 hH hz1 hS => ?_)
  rw [hsz] at hH hz1 ⊢
  have hsz : H13.size = sz + 6 + 2 * n := by omega
  obtain ⟨M15, hM15⟩ : ∃ Mq, Mq = zw_u M14 (sz + 5 + 2 * n) (.inl (G.2.1 3, 120, .inr (.inr (.inr (.inr (fun _ => none)))))) := ⟨_, rfl⟩
  have hH : zw_H G.1 zCl B M15 H13 := by rw [hM15]; exact hH
  have hx0 : M15 x = some (.inr (1, [.int (nI n), .int (nI mb), .ref sz, .ref (sz + 1), .ref (sz + 2), .ref (sz + 3 + n), .ref (sz + 4 + n), .null, .int 0, .null, .int 0, .int 0, .int 0, .int 0])) := by rw [hM15, zw_un _ _ (by omega)]; exact hx0
  have hdn : M15 sz = some (.inl (G.2.1 2, n, .inl (fun _ => nI 0))) := by rw [hM15, zw_un _ _ (by omega)]; exact hdn
  have hck : M15 (sz + 1) = some (.inl (G.2.1 1, n, .inr (.inl (fun _ => 0)))) := by rw [hM15, zw_un _ _ (by omega)]; exact hck
  have hlgs : M15 (sz + 2) = some (.inl (G.2.1 4, n, .inr (.inr (.inr (.inr (fun i => some (sz + 2 + 1 + i))))))) := by rw [hM15, zw_un _ _ (by omega)]; exact hlgs
  have hlz : M15 (sz + 3 + n) = some (.inl (G.2.1 0, n, .inl (fun _ => nI 0))) := by rw [hM15, zw_un _ _ (by omega)]; exact hlz
  have hwts : M15 (sz + 4 + n) = some (.inl (G.2.1 4, n, .inr (.inr (.inr (.inr (fun i => some (sz + 4 + n + 1 + i))))))) := by rw [hM15, zw_un _ _ (by omega)]; exact hwts
  have hrw : ∀ i, i < n → M15 (sz + 3 + i) = some (.inl (G.2.1 0, n * 60, .inl (fun _ => nI 0))) := fun i hi => by rw [hM15, zw_un _ _ (by omega)]; exact hrw i hi
  have hww : ∀ i, i < n → M15 (sz + 5 + n + i) = some (.inl (G.2.1 0, 60, .inl (fun _ => nI 0))) := fun i hi => by rw [hM15, zw_un _ _ (by omega)]; exact hww i hi
  have hfl : M15 (sz + 5 + 2 * n) = some (.inl (G.2.1 3, 120, .inr (.inr (.inr (.inr (fun _ => none)))))) := by rw [hM15]; exact zw_us _ _ _
  refine zw_putF (D := G.1) (ci := 1) (v := .ref (sz + 5 + 2 * n)) (ty := (.array (.object "ChangeSync$Message"))) (C := RC) (T := TC) (N := 14) hx hb hz iC tC tC_ok nC hown hK hH hS hx0 rfl 7 (by decide) (hz _ zm_38) (fun _ h9 => h9) rfl hin rfl (by decide +kernel) rfl rfl (Nat.le_of_ble_eq_true rfl) dC_init_105 (fun H14 L14 hH hz1 hS => ?_)
  have hsz : H14.size = _ := hz1.trans hsz
  obtain ⟨M16, hM16⟩ : ∃ Mq, Mq = zw_u M15 x (.inr (1, [.int (nI n), .int (nI mb), .ref sz, .ref (sz + 1), .ref (sz + 2), .ref (sz + 3 + n), .ref (sz + 4 + n), .ref (sz + 5 + 2 * n), .int 0, .null, .int 0, .int 0, .int 0, .int 0])) := ⟨_, rfl⟩
  have hH : zw_H G.1 zCl B M16 H14 := by rw [hM16]; exact hH
  have hdn : M16 sz = some (.inl (G.2.1 2, n, .inl (fun _ => nI 0))) := by rw [hM16, zw_un _ _ (by omega)]; exact hdn
  have hck : M16 (sz + 1) = some (.inl (G.2.1 1, n, .inr (.inl (fun _ => 0)))) := by rw [hM16, zw_un _ _ (by omega)]; exact hck
  have hlgs : M16 (sz + 2) = some (.inl (G.2.1 4, n, .inr (.inr (.inr (.inr (fun i => some (sz + 2 + 1 + i))))))) := by rw [hM16, zw_un _ _ (by omega)]; exact hlgs
  have hlz : M16 (sz + 3 + n) = some (.inl (G.2.1 0, n, .inl (fun _ => nI 0))) := by rw [hM16, zw_un _ _ (by omega)]; exact hlz
  have hwts : M16 (sz + 4 + n) = some (.inl (G.2.1 4, n, .inr (.inr (.inr (.inr (fun i => some (sz + 4 + n + 1 + i))))))) := by rw [hM16, zw_un _ _ (by omega)]; exact hwts
  have hfl : M16 (sz + 5 + 2 * n) = some (.inl (G.2.1 3, 120, .inr (.inr (.inr (.inr (fun _ => none)))))) := by rw [hM16, zw_un _ _ (by omega)]; exact hfl
  have hrw : ∀ i, i < n → M16 (sz + 3 + i) = some (.inl (G.2.1 0, n * 60, .inl (fun _ => nI 0))) := fun i hi => by rw [hM16, zw_un _ _ (by omega)]; exact hrw i hi
  have hww : ∀ i, i < n → M16 (sz + 5 + n + i) = some (.inl (G.2.1 0, 60, .inl (fun _ => nI 0))) := fun i hi => by rw [hM16, zw_un _ _ (by omega)]; exact hww i hi
  have hx0 : M16 x = some (.inr (1, [.int (nI n), .int (nI mb), .ref sz, .ref (sz + 1), .ref (sz + 2), .ref (sz + 3 + n), .ref (sz + 4 + n), .ref (sz + 5 + 2 * n), .int 0, .null, .int 0, .int 0, .int 0, .int 0])) := by rw [hM16]; exact zw_us _ _ _
  refine lv_aload_n hx hb dC_init_108 rfl (lv_at hl 1 rfl) ?_
  refine lv_iload_n hx hb dC_init_109 rfl (lv_at hl 0 rfl) ?_
  refine zw_newa (atype := .int) (cA := G.2.1 0) (a0 := (n * 60, .inl (fun _ => nI 0))) hx hb (hz _ zm_76) hK hH hS (Nat.le_trans hE.2.1 hS.1) 0 rfl rfl rfl (by omega) (by show _ + 1 ≤ 23; omega) (by show _ + _ ≤ 5000; omega) dC_init_110 (fun H15 hH hz1 hS => ?_)
  rw [hsz] at hH hz1 ⊢
  have hsz : H15.size = sz + 7 + 2 * n := by omega
  obtain ⟨M17, hM17⟩ : ∃ Mq, Mq = zw_u M16 (sz + 6 + 2 * n) (.inl (G.2.1 0, n * 60, .inl (fun _ => nI 0))) := ⟨_, rfl⟩
  have hH : zw_H G.1 zCl B M17 H15 := by rw [hM17]; exact hH
  have hx0 : M17 x = some (.inr (1, [.int (nI n), .int (nI mb), .ref sz, .ref (sz + 1), .ref (sz + 2), .ref (sz + 3 + n), .ref (sz + 4 + n), .ref (sz + 5 + 2 * n), .int 0, .null, .int 0, .int 0, .int 0, .int 0])) := by rw [hM17, zw_un _ _ (by omega)]; exact hx0
  have hdn : M17 sz = some (.inl (G.2.1 2, n, .inl (fun _ => nI 0))) := by rw [hM17, zw_un _ _ (by omega)]; exact hdn
  have hck : M17 (sz + 1) = some (.inl (G.2.1 1, n, .inr (.inl (fun _ => 0)))) := by rw [hM17, zw_un _ _ (by omega)]; exact hck
  have hlgs : M17 (sz + 2) = some (.inl (G.2.1 4, n, .inr (.inr (.inr (.inr (fun i => some (sz + 2 + 1 + i))))))) := by rw [hM17, zw_un _ _ (by omega)]; exact hlgs
  have hlz : M17 (sz + 3 + n) = some (.inl (G.2.1 0, n, .inl (fun _ => nI 0))) := by rw [hM17, zw_un _ _ (by omega)]; exact hlz
  have hwts : M17 (sz + 4 + n) = some (.inl (G.2.1 4, n, .inr (.inr (.inr (.inr (fun i => some (sz + 4 + n + 1 + i))))))) := by rw [hM17, zw_un _ _ (by omega)]; exact hwts
  have hfl : M17 (sz + 5 + 2 * n) = some (.inl (G.2.1 3, 120, .inr (.inr (.inr (.inr (fun _ => none)))))) := by rw [hM17, zw_un _ _ (by omega)]; exact hfl
  have hrw : ∀ i, i < n → M17 (sz + 3 + i) = some (.inl (G.2.1 0, n * 60, .inl (fun _ => nI 0))) := fun i hi => by rw [hM17, zw_un _ _ (by omega)]; exact hrw i hi
  have hww : ∀ i, i < n → M17 (sz + 5 + n + i) = some (.inl (G.2.1 0, 60, .inl (fun _ => nI 0))) := fun i hi => by rw [hM17, zw_un _ _ (by omega)]; exact hww i hi
  have hga : M17 (sz + 6 + 2 * n) = some (.inl (G.2.1 0, n * 60, .inl (fun _ => nI 0))) := by rw [hM17]; exact zw_us _ _ _
  refine zw_putF (D := G.1) (ci := 1) (v := .ref (sz + 6 + 2 * n)) (ty := (.array .int)) (C := RC) (T := TC) (N := 14) hx hb hz iC tC tC_ok nC hown hK hH hS hx0 rfl 9 (by decide) (hz _ zm_40) (fun _ h9 => h9) rfl hin rfl (by decide +kernel) rfl rfl (Nat.le_of_ble_eq_true rfl) dC_init_112 (fun H16 L16 hH hz1 hS => ?_)
  have hsz : H16.size = _ := hz1.trans hsz
  obtain ⟨M18, hM18⟩ : ∃ Mq, Mq = zw_u M17 x (.inr (1, [.int (nI n), .int (nI mb), .ref sz, .ref (sz + 1), .ref (sz + 2), .ref (sz + 3 + n), .ref (sz + 4 + n), .ref (sz + 5 + 2 * n), .int 0, .ref (sz + 6 + 2 * n), .int 0, .int 0, .int 0, .int 0])) := ⟨_, rfl⟩
  have hH : zw_H G.1 zCl B M18 H16 := by rw [hM18]; exact hH
  have hdn : M18 sz = some (.inl (G.2.1 2, n, .inl (fun _ => nI 0))) := by rw [hM18, zw_un _ _ (by omega)]; exact hdn
  have hck : M18 (sz + 1) = some (.inl (G.2.1 1, n, .inr (.inl (fun _ => 0)))) := by rw [hM18, zw_un _ _ (by omega)]; exact hck
  have hlgs : M18 (sz + 2) = some (.inl (G.2.1 4, n, .inr (.inr (.inr (.inr (fun i => some (sz + 2 + 1 + i))))))) := by rw [hM18, zw_un _ _ (by omega)]; exact hlgs
  have hlz : M18 (sz + 3 + n) = some (.inl (G.2.1 0, n, .inl (fun _ => nI 0))) := by rw [hM18, zw_un _ _ (by omega)]; exact hlz
  have hwts : M18 (sz + 4 + n) = some (.inl (G.2.1 4, n, .inr (.inr (.inr (.inr (fun i => some (sz + 4 + n + 1 + i))))))) := by rw [hM18, zw_un _ _ (by omega)]; exact hwts
  have hfl : M18 (sz + 5 + 2 * n) = some (.inl (G.2.1 3, 120, .inr (.inr (.inr (.inr (fun _ => none)))))) := by rw [hM18, zw_un _ _ (by omega)]; exact hfl
  have hga : M18 (sz + 6 + 2 * n) = some (.inl (G.2.1 0, n * 60, .inl (fun _ => nI 0))) := by rw [hM18, zw_un _ _ (by omega)]; exact hga
  have hrw : ∀ i, i < n → M18 (sz + 3 + i) = some (.inl (G.2.1 0, n * 60, .inl (fun _ => nI 0))) := fun i hi => by rw [hM18, zw_un _ _ (by omega)]; exact hrw i hi
  have hww : ∀ i, i < n → M18 (sz + 5 + n + i) = some (.inl (G.2.1 0, 60, .inl (fun _ => nI 0))) := fun i hi => by rw [hM18, zw_un _ _ (by omega)]; exact hww i hi
  have hx0 : M18 x = some (.inr (1, [.int (nI n), .int (nI mb), .ref sz, .ref (sz + 1), .ref (sz + 2), .ref (sz + 3 + n), .ref (sz + 4 + n), .ref (sz + 5 + 2 * n), .int 0, .ref (sz + 6 + 2 * n), .int 0, .int 0, .int 0, .int 0])) := by rw [hM18]; exact zw_us _ _ _
  have hkf : ∀ q : Nat, q ≠ x → q < sz → M18 q = M q := fun q h1 h2 => by rw [hM18, zw_un _ _ (by omega), hM17, zw_un _ _ (by omega), hM16, zw_un _ _ (by omega), hM15, zw_un _ _ (by omega), hM14, zw_un _ _ (by omega), hM13, zw_un _ _ (by omega), hM12, zw_rout _ _ (by omega), hM11, zw_un _ _ (by omega), hM10, zw_un _ _ (by omega), hM9, zw_un _ _ (by omega), hM8, zw_un _ _ (by omega), hM7, zw_rout _ _ (by omega), hM6, zw_un _ _ (by omega), hM5, zw_un _ _ (by omega), hM4, zw_un _ _ (by omega), hM3, zw_un _ _ (by omega), hM2, zw_un _ _ (by omega), hM1, zw_un _ _ (by omega)]
  rw [show (fun _ => (0 : Int64)) = fun i => zck (z0.lg i) from funext (fun _ => zck_nil.symm)] at hck
  rw [show (fun i => some (sz + 4 + n + 1 + i)) = fun i => some (sz + 5 + n + i) from funext (fun i => congrArg some (by omega))] at hwts
  refine W.widen (k := 23) (n := 5000) (by omega) (by omega) ?_
  exact W.vret hx hb hr (fun t ht hW => ⟨⟨(M18, (sz + 7 + 2 * n)), rfl, ⟨rfl, fun L hL => ⟨_, hxs, hL, hx0, hdn, hck, hlgs, hrw, hlz, hwts, hww, hfl, hga, rfl, fun i q mg h => by cases h⟩, hkf⟩, by rw [ht]; exact hH, by rw [ht]; exact hsz⟩, hS.F ht⟩) hS.2.2 dC_init_115

