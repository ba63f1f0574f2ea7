-- by ctor.py
def rm_X6_init : Room := { frames := 1, cells := 1, slots := 200, locals := 12 }
set_option maxHeartbeats 4000000 in
set_option maxRecDepth 100000 in
theorem c_X6_init (l : Launch) (D : va_G) (cI cC cM : ClassId) (ax : Nat) : CN l D cI cC cM yX6_init wsX6_init rm_X6_init [.ref ax] [(ax, .inr (6, [.null, .int 0]))] (fun w => ∃ q0 : Nat, w = [(ax, .inr (6, [.ref q0, .int 0])), (q0, .inl (cC, 200, .inl (fun _ => 0)))]) 1 200 := by
  refine CN.of (cc := cX6_init) (nL := 1) (by decide) rfl rfl (Nat.le_of_ble_eq_true rfl) ?_
  intro p e s m args below meth c A hC hO hin hP hD hS ls hl
  obtain ⟨hx, hb, hml, hown, hts, hr, hlk, hG, hA⟩ := id hC
  have hown : s.vm.findClass RX6 = some m.cls := hown
  have hK := hG.1
  have hl : lv_has ls 1 [(0, .ref ax)] := hl
  have k_oi := hts (.methodLink RX6 3 objectInit) (List.mem_of_getElem? (i := 1) rfl)
  have k_oim := hts (.instanceMethod objectInit) (List.mem_of_getElem? (i := 2) rfl)
  have k_oic := hts (.code objectInit ⟨#[0xb1]⟩ 1 none) (List.mem_of_getElem? (i := 3) rfl)
  have k_arrc := hts (.arrayClass .char) (List.mem_of_getElem? (i := 4) rfl)
  have k_f9 := hts (.fieldLink RX6 9 "ParasolHours$Text" "letters" "[C") (List.mem_of_getElem? (i := 5) rfl)
  have iX6 : ∀ w ∈ wsX60, w ∈ wsX6_init := by decide +kernel
  generalize hQ : MQ below (QN D (fun w => ∃ q0 : Nat, w = [(ax, .inr (6, [.ref q0, .int 0])), (q0, .inl (cC, 200, .inl (fun _ => 0)))]) A) args s 1 200 A = Q
  refine lv_aload_n hx hb dX6_init_0 rfl (lv_at hl 0 rfl) ?_
  refine W.objInit hx hb hown k_oi k_oim k_oic rfl (by rw [hml]; exact hl.1) rfl dX6_init_1 (Nat.le_of_ble_eq_true rfl) (Nat.le_of_ble_eq_true rfl) ?_
  refine W.eq (g2 := F0 m 4 ls []) rfl ?_
  refine lv_aload_n hx hb dX6_init_4 rfl (lv_at hl 0 rfl) ?_
  refine lv_sipush (v := (200 : Int32)) hx hb dX6_init_5 (by decide) ?_
  refine nnewc hC k_arrc hP hD hS (N' := 200) (by decide) (by decide) (Nat.le_of_ble_eq_true rfl) (Nat.le_of_ble_eq_true rfl) (Nat.le_of_ble_eq_true rfl) dX6_init_8 (fun q1 H hP hD hS => ?_)
  have hP : va_P D vwCl [(ax, .inr (6, [.null, .int 0])), (q1, .inl (cC, 200, .inl (fun _ => 0)))] H := hP
  have hD : va_D A [(ax, .inr (6, [.null, .int 0])), (q1, .inl (cC, 200, .inl (fun _ => 0)))] := hD
  refine W.widen (k := 1) (n := 200) (by omega) (by omega) ?_
  refine va_putF (D := D) (ci := 6) (v := .ref q1) (ty := .array .char) (C := RX6) (T := TX6) (N := 2) hx hb hts iX6 tyX6 tyX6_ok nmX6 hown hK hP hD hS 0 rfl rfl 0 (by decide) k_f9 (fun _ h9 => h9) rfl hin rfl (by decide +kernel) rfl rfl (Nat.le_of_ble_eq_true rfl) dX6_init_10 (fun H locs hP hD hS => ?_)
  have hP : va_P D vwCl [(ax, .inr (6, [.ref q1, .int 0])), (q1, .inl (cC, 200, .inl (fun _ => 0)))] H := hP
  have hD : va_D A [(ax, .inr (6, [.ref q1, .int 0])), (q1, .inl (cC, 200, .inl (fun _ => 0)))] := hD
  have hP := hP.sub (ws' := [(ax, .inr (6, [.ref q1, .int 0])), (q1, .inl (cC, 200, .inl (fun _ => 0)))]) [0, 1] rfl
  have hD := hD.sub (ws' := [(ax, .inr (6, [.ref q1, .int 0])), (q1, .inl (cC, 200, .inl (fun _ => 0)))]) [0, 1] (by decide) rfl
  rw [← hQ]
  exact xrn hC ⟨q1, rfl⟩ hP hD hS dX6_init_13

def rm_X5_init : Room := { frames := 1, cells := 2, slots := 12, locals := 12 }
set_option maxHeartbeats 4000000 in
set_option maxRecDepth 100000 in
theorem c_X5_init (l : Launch) (D : va_G) (cI cC cM : ClassId) (ax : Nat) : CN l D cI cC cM yX5_init wsX5_init rm_X5_init [.ref ax] [(ax, .inr (5, [.null, .null, .int 0]))] (fun w => ∃ q0 q1 : Nat, w = [(ax, .inr (5, [.ref q0, .ref q1, .int 0])), (q0, .inl (cI, 6, .inl (fun _ => 0))), (q1, .inl (cI, 6, .inl (fun _ => 0)))]) 2 12 := by
  refine CN.of (cc := cX5_init) (nL := 1) (by decide) rfl rfl (Nat.le_of_ble_eq_true rfl) ?_
  intro p e s m args below meth c A hC hO hin hP hD hS ls hl
  obtain ⟨hx, hb, hml, hown, hts, hr, hlk, hG, hA⟩ := id hC
  have hown : s.vm.findClass RX5 = some m.cls := hown
  have hK := hG.1
  have hl : lv_has ls 1 [(0, .ref ax)] := hl
  have k_oi := hts (.methodLink RX5 3 objectInit) (List.mem_of_getElem? (i := 1) rfl)
  have k_oim := hts (.instanceMethod objectInit) (List.mem_of_getElem? (i := 2) rfl)
  have k_oic := hts (.code objectInit ⟨#[0xb1]⟩ 1 none) (List.mem_of_getElem? (i := 3) rfl)
  have k_arri := hts (.arrayClass .int) (List.mem_of_getElem? (i := 4) rfl)
  have k_f9 := hts (.fieldLink RX5 9 "ParasolHours$Sightings" "hour" "[I") (List.mem_of_getElem? (i := 5) rfl)
  have k_f15 := hts (.fieldLink RX5 15 "ParasolHours$Sightings" "behind" "[I") (List.mem_of_getElem? (i := 6) rfl)
  have iX5 : ∀ w ∈ wsX50, w ∈ wsX5_init := by decide +kernel
  generalize hQ : MQ below (QN D (fun w => ∃ q0 q1 : Nat, w = [(ax, .inr (5, [.ref q0, .ref q1, .int 0])), (q0, .inl (cI, 6, .inl (fun _ => 0))), (q1, .inl (cI, 6, .inl (fun _ => 0)))]) A) args s 2 12 A = Q
  refine lv_aload_n hx hb dX5_init_0 rfl (lv_at hl 0 rfl) ?_
  refine W.objInit hx hb hown k_oi k_oim k_oic rfl (by rw [hml]; exact hl.1) rfl dX5_init_1 (Nat.le_of_ble_eq_true rfl) (Nat.le_of_ble_eq_true rfl) ?_
  refine W.eq (g2 := F0 m 4 ls []) rfl ?_
  refine lv_aload_n hx hb dX5_init_4 rfl (lv_at hl 0 rfl) ?_
  refine lv_bipush (v := (6 : Int32)) hx hb dX5_init_5 (by decide) ?_
  refine nnewi hC k_arri hP hD hS (N' := 6) (by decide) (by decide) (Nat.le_of_ble_eq_true rfl) (Nat.le_of_ble_eq_true rfl) (Nat.le_of_ble_eq_true rfl) dX5_init_7 (fun q1 H hP hD hS => ?_)
  have hP : va_P D vwCl [(ax, .inr (5, [.null, .null, .int 0])), (q1, .inl (cI, 6, .inl (fun _ => 0)))] H := hP
  have hD : va_D A [(ax, .inr (5, [.null, .null, .int 0])), (q1, .inl (cI, 6, .inl (fun _ => 0)))] := hD
  refine W.widen (k := 1) (n := 6) (by omega) (by omega) ?_
  refine va_putF (D := D) (ci := 5) (v := .ref q1) (ty := .array .int) (C := RX5) (T := TX5) (N := 3) hx hb hts iX5 tyX5 tyX5_ok nmX5 hown hK hP hD hS 0 rfl rfl 0 (by decide) k_f9 (fun _ h9 => h9) rfl hin rfl (by decide +kernel) rfl rfl (Nat.le_of_ble_eq_true rfl) dX5_init_9 (fun H locs hP hD hS => ?_)
  have hP : va_P D vwCl [(ax, .inr (5, [.ref q1, .null, .int 0])), (q1, .inl (cI, 6, .inl (fun _ => 0)))] H := hP
  have hD : va_D A [(ax, .inr (5, [.ref q1, .null, .int 0])), (q1, .inl (cI, 6, .inl (fun _ => 0)))] := hD
  refine lv_aload_n hx hb dX5_init_12 rfl (lv_at hl 0 rfl) ?_
  refine lv_bipush (v := (6 : Int32)) hx hb dX5_init_13 (by decide) ?_
  refine nnewi hC k_arri hP hD hS (N' := 6) (by decide) (by decide) (Nat.le_of_ble_eq_true rfl) (Nat.le_of_ble_eq_true rfl) (Nat.le_of_ble_eq_true rfl) dX5_init_15 (fun q2 H hP hD hS => ?_)
  have hP : va_P D vwCl [(ax, .inr (5, [.ref q1, .null, .int 0])), (q1, .inl (cI, 6, .inl (fun _ => 0))), (q2, .inl (cI, 6, .inl (fun _ => 0)))] H := hP
  have hD : va_D A [(ax, .inr (5, [.ref q1, .null, .int 0])), (q1, .inl (cI, 6, .inl (fun _ => 0))), (q2, .inl (cI, 6, .inl (fun _ => 0)))] := hD
  refine W.widen (k := 2) (n := 12) (by omega) (by omega) ?_
  refine va_putF (D := D) (ci := 5) (v := .ref q2) (ty := .array .int) (C := RX5) (T := TX5) (N := 3) hx hb hts iX5 tyX5 tyX5_ok nmX5 hown hK hP hD hS 0 rfl rfl 1 (by decide) k_f15 (fun _ h9 => h9) rfl hin rfl (by decide +kernel) rfl rfl (Nat.le_of_ble_eq_true rfl) dX5_init_17 (fun H locs hP hD hS => ?_)
  have hP : va_P D vwCl [(ax, .inr (5, [.ref q1, .ref q2, .int 0])), (q1, .inl (cI, 6, .inl (fun _ => 0))), (q2, .inl (cI, 6, .inl (fun _ => 0)))] H := hP
  have hD : va_D A [(ax, .inr (5, [.ref q1, .ref q2, .int 0])), (q1, .inl (cI, 6, .inl (fun _ => 0))), (q2, .inl (cI, 6, .inl (fun _ => 0)))] := hD
  have hP := hP.sub (ws' := [(ax, .inr (5, [.ref q1, .ref q2, .int 0])), (q1, .inl (cI, 6, .inl (fun _ => 0))), (q2, .inl (cI, 6, .inl (fun _ => 0)))]) [0, 1, 2] rfl
  have hD := hD.sub (ws' := [(ax, .inr (5, [.ref q1, .ref q2, .int 0])), (q1, .inl (cI, 6, .inl (fun _ => 0))), (q2, .inl (cI, 6, .inl (fun _ => 0)))]) [0, 1, 2] (by decide) rfl
  rw [← hQ]
  exact xrn hC ⟨q1, q2, rfl⟩ hP hD hS dX5_init_20

def rm_X0_init : Room := { frames := 1, cells := 3, slots := 16, locals := 12 }
set_option maxHeartbeats 4000000 in
set_option maxRecDepth 100000 in
theorem c_X0_init (l : Launch) (D : va_G) (cI cC cM : ClassId) (ax : Nat) : CN l D cI cC cM yX0_init wsX0_init rm_X0_init [.ref ax] [(ax, .inr (0, [.null, .null, .null, .int 0]))] (fun w => ∃ q0 q1 q2 : Nat, w = [(ax, .inr (0, [.ref q0, .ref q1, .ref q2, .int 0])), (q0, .inl (cI, 5, .inl (fun _ => 0))), (q1, .inl (cI, 5, .inl (fun _ => 0))), (q2, .inl (cI, 6, .inl (fun _ => 0)))]) 3 16 := by
  refine CN.of (cc := cX0_init) (nL := 1) (by decide) rfl rfl (Nat.le_of_ble_eq_true rfl) ?_
  intro p e s m args below meth c A hC hO hin hP hD hS ls hl
  obtain ⟨hx, hb, hml, hown, hts, hr, hlk, hG, hA⟩ := id hC
  have hown : s.vm.findClass RX0 = some m.cls := hown
  have hK := hG.1
  have hl : lv_has ls 1 [(0, .ref ax)] := hl
  have k_oi := hts (.methodLink RX0 3 objectInit) (List.mem_of_getElem? (i := 1) rfl)
  have k_oim := hts (.instanceMethod objectInit) (List.mem_of_getElem? (i := 2) rfl)
  have k_oic := hts (.code objectInit ⟨#[0xb1]⟩ 1 none) (List.mem_of_getElem? (i := 3) rfl)
  have k_arri := hts (.arrayClass .int) (List.mem_of_getElem? (i := 4) rfl)
  have k_f9 := hts (.fieldLink RX0 9 "ParasolHours$Deal" "chosen" "[I") (List.mem_of_getElem? (i := 5) rfl)
  have k_f15 := hts (.fieldLink RX0 15 "ParasolHours$Deal" "best" "[I") (List.mem_of_getElem? (i := 6) rfl)
  have k_f18 := hts (.fieldLink RX0 18 "ParasolHours$Deal" "reach" "[I") (List.mem_of_getElem? (i := 7) rfl)
  have iX0 : ∀ w ∈ wsX00, w ∈ wsX0_init := by decide +kernel
  generalize hQ : MQ below (QN D (fun w => ∃ q0 q1 q2 : Nat, w = [(ax, .inr (0, [.ref q0, .ref q1, .ref q2, .int 0])), (q0, .inl (cI, 5, .inl (fun _ => 0))), (q1, .inl (cI, 5, .inl (fun _ => 0))), (q2, .inl (cI, 6, .inl (fun _ => 0)))]) A) args s 3 16 A = Q
  refine lv_aload_n hx hb dX0_init_0 rfl (lv_at hl 0 rfl) ?_
  refine W.objInit hx hb hown k_oi k_oim k_oic rfl (by rw [hml]; exact hl.1) rfl dX0_init_1 (Nat.le_of_ble_eq_true rfl) (Nat.le_of_ble_eq_true rfl) ?_
  refine W.eq (g2 := F0 m 4 ls []) rfl ?_
  refine lv_aload_n hx hb dX0_init_4 rfl (lv_at hl 0 rfl) ?_
  refine lv_iconst (v := (5 : Int32)) hx hb dX0_init_5 (by decide) ?_
  refine nnewi hC k_arri hP hD hS (N' := 5) (by decide) (by decide) (Nat.le_of_ble_eq_true rfl) (Nat.le_of_ble_eq_true rfl) (Nat.le_of_ble_eq_true rfl) dX0_init_6 (fun q1 H hP hD hS => ?_)
  have hP : va_P D vwCl [(ax, .inr (0, [.null, .null, .null, .int 0])), (q1, .inl (cI, 5, .inl (fun _ => 0)))] H := hP
  have hD : va_D A [(ax, .inr (0, [.null, .null, .null, .int 0])), (q1, .inl (cI, 5, .inl (fun _ => 0)))] := hD
  refine W.widen (k := 1) (n := 5) (by omega) (by omega) ?_
  refine va_putF (D := D) (ci := 0) (v := .ref q1) (ty := .array .int) (C := RX0) (T := TX0) (N := 4) hx hb hts iX0 tyX0 tyX0_ok nmX0 hown hK hP hD hS 0 rfl rfl 0 (by decide) k_f9 (fun _ h9 => h9) rfl hin rfl (by decide +kernel) rfl rfl (Nat.le_of_ble_eq_true rfl) dX0_init_8 (fun H locs hP hD hS => ?_)
  have hP : va_P D vwCl [(ax, .inr (0, [.ref q1, .null, .null, .int 0])), (q1, .inl (cI, 5, .inl (fun _ => 0)))] H := hP
  have hD : va_D A [(ax, .inr (0, [.ref q1, .null, .null, .int 0])), (q1, .inl (cI, 5, .inl (fun _ => 0)))] := hD
  refine lv_aload_n hx hb dX0_init_11 rfl (lv_at hl 0 rfl) ?_
  refine lv_iconst (v := (5 : Int32)) hx hb dX0_init_12 (by decide) ?_
  refine nnewi hC k_arri hP hD hS (N' := 5) (by decide) (by decide) (Nat.le_of_ble_eq_true rfl) (Nat.le_of_ble_eq_true rfl) (Nat.le_of_ble_eq_true rfl) dX0_init_13 (fun q2 H hP hD hS => ?_)
  have hP : va_P D vwCl [(ax, .inr (0, [.ref q1, .null, .null, .int 0])), (q1, .inl (cI, 5, .inl (fun _ => 0))), (q2, .inl (cI, 5, .inl (fun _ => 0)))] H := hP
  have hD : va_D A [(ax, .inr (0, [.ref q1, .null, .null, .int 0])), (q1, .inl (cI, 5, .inl (fun _ => 0))), (q2, .inl (cI, 5, .inl (fun _ => 0)))] := hD
  refine W.widen (k := 2) (n := 10) (by omega) (by omega) ?_
  refine va_putF (D := D) (ci := 0) (v := .ref q2) (ty := .array .int) (C := RX0) (T := TX0) (N := 4) hx hb hts iX0 tyX0 tyX0_ok nmX0 hown hK hP hD hS 0 rfl rfl 1 (by decide) k_f15 (fun _ h9 => h9) rfl hin rfl (by decide +kernel) rfl rfl (Nat.le_of_ble_eq_true rfl) dX0_init_15 (fun H locs hP hD hS => ?_)
  have hP : va_P D vwCl [(ax, .inr (0, [.ref q1, .ref q2, .null, .int 0])), (q1, .inl (cI, 5, .inl (fun _ => 0))), (q2, .inl (cI, 5, .inl (fun _ => 0)))] H := hP
  have hD : va_D A [(ax, .inr (0, [.ref q1, .ref q2, .null, .int 0])), (q1, .inl (cI, 5, .inl (fun _ => 0))), (q2, .inl (cI, 5, .inl (fun _ => 0)))] := hD
  refine lv_aload_n hx hb dX0_init_18 rfl (lv_at hl 0 rfl) ?_
  refine lv_bipush (v := (6 : Int32)) hx hb dX0_init_19 (by decide) ?_
  refine nnewi hC k_arri hP hD hS (N' := 6) (by decide) (by decide) (Nat.le_of_ble_eq_true rfl) (Nat.le_of_ble_eq_true rfl) (Nat.le_of_ble_eq_true rfl) dX0_init_21 (fun q3 H hP hD hS => ?_)
  have hP : va_P D vwCl [(ax, .inr (0, [.ref q1, .ref q2, .null, .int 0])), (q1, .inl (cI, 5, .inl (fun _ => 0))), (q2, .inl (cI, 5, .inl (fun _ => 0))), (q3, .inl (cI, 6, .inl (fun _ => 0)))] H := hP
  have hD : va_D A [(ax, .inr (0, [.ref q1, .ref q2, .null, .int 0])), (q1, .inl (cI, 5, .inl (fun _ => 0))), (q2, .inl (cI, 5, .inl (fun _ => 0))), (q3, .inl (cI, 6, .inl (fun _ => 0)))] := hD
  refine W.widen (k := 3) (n := 16) (by omega) (by omega) ?_
  refine va_putF (D := D) (ci := 0) (v := .ref q3) (ty := .array .int) (C := RX0) (T := TX0) (N := 4) hx hb hts iX0 tyX0 tyX0_ok nmX0 hown hK hP hD hS 0 rfl rfl 2 (by decide) k_f18 (fun _ h9 => h9) rfl hin rfl (by decide +kernel) rfl rfl (Nat.le_of_ble_eq_true rfl) dX0_init_23 (fun H locs hP hD hS => ?_)
  have hP : va_P D vwCl [(ax, .inr (0, [.ref q1, .ref q2, .ref q3, .int 0])), (q1, .inl (cI, 5, .inl (fun _ => 0))), (q2, .inl (cI, 5, .inl (fun _ => 0))), (q3, .inl (cI, 6, .inl (fun _ => 0)))] H := hP
  have hD : va_D A [(ax, .inr (0, [.ref q1, .ref q2, .ref q3, .int 0])), (q1, .inl (cI, 5, .inl (fun _ => 0))), (q2, .inl (cI, 5, .inl (fun _ => 0))), (q3, .inl (cI, 6, .inl (fun _ => 0)))] := hD
  have hP := hP.sub (ws' := [(ax, .inr (0, [.ref q1, .ref q2, .ref q3, .int 0])), (q1, .inl (cI, 5, .inl (fun _ => 0))), (q2, .inl (cI, 5, .inl (fun _ => 0))), (q3, .inl (cI, 6, .inl (fun _ => 0)))]) [0, 1, 2, 3] rfl
  have hD := hD.sub (ws' := [(ax, .inr (0, [.ref q1, .ref q2, .ref q3, .int 0])), (q1, .inl (cI, 5, .inl (fun _ => 0))), (q2, .inl (cI, 5, .inl (fun _ => 0))), (q3, .inl (cI, 6, .inl (fun _ => 0)))]) [0, 1, 2, 3] (by decide) rfl
  rw [← hQ]
  exact xrn hC ⟨q1, q2, q3, rfl⟩ hP hD hS dX0_init_26

def rm_X2_init : Room := { frames := 1, cells := 3, slots := 18, locals := 12 }
set_option maxHeartbeats 4000000 in
set_option maxRecDepth 100000 in
theorem c_X2_init (l : Launch) (D : va_G) (cI cC cM : ClassId) (ax : Nat) : CN l D cI cC cM yX2_init wsX2_init rm_X2_init [.ref ax] [(ax, .inr (2, [.int 0, .int 0, .int 0, .int 0, .null, .null, .null]))] (fun w => ∃ q0 q1 q2 : Nat, w = [(ax, .inr (2, [.int 0, .int 0, .int 0, .int 0, .ref q0, .ref q1, .ref q2])), (q0, .inl (cI, 6, .inl (fun _ => 0))), (q1, .inl (cI, 6, .inl (fun _ => 0))), (q2, .inl (cI, 6, .inl (fun _ => 0)))]) 3 18 := by
  refine CN.of (cc := cX2_init) (nL := 1) (by decide) rfl rfl (Nat.le_of_ble_eq_true rfl) ?_
  intro p e s m args below meth c A hC hO hin hP hD hS ls hl
  obtain ⟨hx, hb, hml, hown, hts, hr, hlk, hG, hA⟩ := id hC
  have hown : s.vm.findClass RX2 = some m.cls := hown
  have hK := hG.1
  have hl : lv_has ls 1 [(0, .ref ax)] := hl
  have k_oi := hts (.methodLink RX2 3 objectInit) (List.mem_of_getElem? (i := 1) rfl)
  have k_oim := hts (.instanceMethod objectInit) (List.mem_of_getElem? (i := 2) rfl)
  have k_oic := hts (.code objectInit ⟨#[0xb1]⟩ 1 none) (List.mem_of_getElem? (i := 3) rfl)
  have k_arri := hts (.arrayClass .int) (List.mem_of_getElem? (i := 4) rfl)
  have k_f9 := hts (.fieldLink RX2 9 "ParasolHours$Plan" "kind" "[I") (List.mem_of_getElem? (i := 5) rfl)
  have k_f15 := hts (.fieldLink RX2 15 "ParasolHours$Plan" "workSquare" "[I") (List.mem_of_getElem? (i := 6) rfl)
  have k_f18 := hts (.fieldLink RX2 18 "ParasolHours$Plan" "workHour" "[I") (List.mem_of_getElem? (i := 7) rfl)
  have iX2 : ∀ w ∈ wsX20, w ∈ wsX2_init := by decide +kernel
  generalize hQ : MQ below (QN D (fun w => ∃ q0 q1 q2 : Nat, w = [(ax, .inr (2, [.int 0, .int 0, .int 0, .int 0, .ref q0, .ref q1, .ref q2])), (q0, .inl (cI, 6, .inl (fun _ => 0))), (q1, .inl (cI, 6, .inl (fun _ => 0))), (q2, .inl (cI, 6, .inl (fun _ => 0)))]) A) args s 3 18 A = Q
  refine lv_aload_n hx hb dX2_init_0 rfl (lv_at hl 0 rfl) ?_
  refine W.objInit hx hb hown k_oi k_oim k_oic rfl (by rw [hml]; exact hl.1) rfl dX2_init_1 (Nat.le_of_ble_eq_true rfl) (Nat.le_of_ble_eq_true rfl) ?_
  refine W.eq (g2 := F0 m 4 ls []) rfl ?_
  refine lv_aload_n hx hb dX2_init_4 rfl (lv_at hl 0 rfl) ?_
  refine lv_bipush (v := (6 : Int32)) hx hb dX2_init_5 (by decide) ?_
  refine nnewi hC k_arri hP hD hS (N' := 6) (by decide) (by decide) (Nat.le_of_ble_eq_true rfl) (Nat.le_of_ble_eq_true rfl) (Nat.le_of_ble_eq_true rfl) dX2_init_7 (fun q1 H hP hD hS => ?_)
  have hP : va_P D vwCl [(ax, .inr (2, [.int 0, .int 0, .int 0, .int 0, .null, .null, .null])), (q1, .inl (cI, 6, .inl (fun _ => 0)))] H := hP
  have hD : va_D A [(ax, .inr (2, [.int 0, .int 0, .int 0, .int 0, .null, .null, .null])), (q1, .inl (cI, 6, .inl (fun _ => 0)))] := hD
  refine W.widen (k := 1) (n := 6) (by omega) (by omega) ?_
  refine va_putF (D := D) (ci := 2) (v := .ref q1) (ty := .array .int) (C := RX2) (T := TX2) (N := 7) hx hb hts iX2 tyX2 tyX2_ok nmX2 hown hK hP hD hS 0 rfl rfl 4 (by decide) k_f9 (fun _ h9 => h9) rfl hin rfl (by decide +kernel) rfl rfl (Nat.le_of_ble_eq_true rfl) dX2_init_9 (fun H locs hP hD hS => ?_)
  have hP : va_P D vwCl [(ax, .inr (2, [.int 0, .int 0, .int 0, .int 0, .ref q1, .null, .null])), (q1, .inl (cI, 6, .inl (fun _ => 0)))] H := hP
  have hD : va_D A [(ax, .inr (2, [.int 0, .int 0, .int 0, .int 0, .ref q1, .null, .null])), (q1, .inl (cI, 6, .inl (fun _ => 0)))] := hD
  refine lv_aload_n hx hb dX2_init_12 rfl (lv_at hl 0 rfl) ?_
  refine lv_bipush (v := (6 : Int32)) hx hb dX2_init_13 (by decide) ?_
  refine nnewi hC k_arri hP hD hS (N' := 6) (by decide) (by decide) (Nat.le_of_ble_eq_true rfl) (Nat.le_of_ble_eq_true rfl) (Nat.le_of_ble_eq_true rfl) dX2_init_15 (fun q2 H hP hD hS => ?_)
  have hP : va_P D vwCl [(ax, .inr (2, [.int 0, .int 0, .int 0, .int 0, .ref q1, .null, .null])), (q1, .inl (cI, 6, .inl (fun _ => 0))), (q2, .inl (cI, 6, .inl (fun _ => 0)))] H := hP
  have hD : va_D A [(ax, .inr (2, [.int 0, .int 0, .int 0, .int 0, .ref q1, .null, .null])), (q1, .inl (cI, 6, .inl (fun _ => 0))), (q2, .inl (cI, 6, .inl (fun _ => 0)))] := hD
  refine W.widen (k := 2) (n := 12) (by omega) (by omega) ?_
  refine va_putF (D := D) (ci := 2) (v := .ref q2) (ty := .array .int) (C := RX2) (T := TX2) (N := 7) hx hb hts iX2 tyX2 tyX2_ok nmX2 hown hK hP hD hS 0 rfl rfl 5 (by decide) k_f15 (fun _ h9 => h9) rfl hin rfl (by decide +kernel) rfl rfl (Nat.le_of_ble_eq_true rfl) dX2_init_17 (fun H locs hP hD hS => ?_)
  have hP : va_P D vwCl [(ax, .inr (2, [.int 0, .int 0, .int 0, .int 0, .ref q1, .ref q2, .null])), (q1, .inl (cI, 6, .inl (fun _ => 0))), (q2, .inl (cI, 6, .inl (fun _ => 0)))] H := hP
  have hD : va_D A [(ax, .inr (2, [.int 0, .int 0, .int 0, .int 0, .ref q1, .ref q2, .null])), (q1, .inl (cI, 6, .inl (fun _ => 0))), (q2, .inl (cI, 6, .inl (fun _ => 0)))] := hD
  refine lv_aload_n hx hb dX2_init_20 rfl (lv_at hl 0 rfl) ?_
  refine lv_bipush (v := (6 : Int32)) hx hb dX2_init_21 (by decide) ?_
  refine nnewi hC k_arri hP hD hS (N' := 6) (by decide) (by decide) (Nat.le_of_ble_eq_true rfl) (Nat.le_of_ble_eq_true rfl) (Nat.le_of_ble_eq_true rfl) dX2_init_23 (fun q3 H hP hD hS => ?_)
  have hP : va_P D vwCl [(ax, .inr (2, [.int 0, .int 0, .int 0, .int 0, .ref q1, .ref q2, .null])), (q1, .inl (cI, 6, .inl (fun _ => 0))), (q2, .inl (cI, 6, .inl (fun _ => 0))), (q3, .inl (cI, 6, .inl (fun _ => 0)))] H := hP
  have hD : va_D A [(ax, .inr (2, [.int 0, .int 0, .int 0, .int 0, .ref q1, .ref q2, .null])), (q1, .inl (cI, 6, .inl (fun _ => 0))), (q2, .inl (cI, 6, .inl (fun _ => 0))), (q3, .inl (cI, 6, .inl (fun _ => 0)))] := hD
  refine W.widen (k := 3) (n := 18) (by omega) (by omega) ?_
  refine va_putF (D := D) (ci := 2) (v := .ref q3) (ty := .array .int) (C := RX2) (T := TX2) (N := 7) hx hb hts iX2 tyX2 tyX2_ok nmX2 hown hK hP hD hS 0 rfl rfl 6 (by decide) k_f18 (fun _ h9 => h9) rfl hin rfl (by decide +kernel) rfl rfl (Nat.le_of_ble_eq_true rfl) dX2_init_25 (fun H locs hP hD hS => ?_)
  have hP : va_P D vwCl [(ax, .inr (2, [.int 0, .int 0, .int 0, .int 0, .ref q1, .ref q2, .ref q3])), (q1, .inl (cI, 6, .inl (fun _ => 0))), (q2, .inl (cI, 6, .inl (fun _ => 0))), (q3, .inl (cI, 6, .inl (fun _ => 0)))] H := hP
  have hD : va_D A [(ax, .inr (2, [.int 0, .int 0, .int 0, .int 0, .ref q1, .ref q2, .ref q3])), (q1, .inl (cI, 6, .inl (fun _ => 0))), (q2, .inl (cI, 6, .inl (fun _ => 0))), (q3, .inl (cI, 6, .inl (fun _ => 0)))] := hD
  have hP := hP.sub (ws' := [(ax, .inr (2, [.int 0, .int 0, .int 0, .int 0, .ref q1, .ref q2, .ref q3])), (q1, .inl (cI, 6, .inl (fun _ => 0))), (q2, .inl (cI, 6, .inl (fun _ => 0))), (q3, .inl (cI, 6, .inl (fun _ => 0)))]) [0, 1, 2, 3] rfl
  have hD := hD.sub (ws' := [(ax, .inr (2, [.int 0, .int 0, .int 0, .int 0, .ref q1, .ref q2, .ref q3])), (q1, .inl (cI, 6, .inl (fun _ => 0))), (q2, .inl (cI, 6, .inl (fun _ => 0))), (q3, .inl (cI, 6, .inl (fun _ => 0)))]) [0, 1, 2, 3] (by decide) rfl
  rw [← hQ]
  exact xrn hC ⟨q1, q2, q3, rfl⟩ hP hD hS dX2_init_28

def rm_X1_init : Room := { frames := 1, cells := 4, slots := 22, locals := 12 }
set_option maxHeartbeats 4000000 in
set_option maxRecDepth 100000 in
theorem c_X1_init (l : Launch) (D : va_G) (cI cC cM : ClassId) (ax ap : Nat) : CN l D cI cC cM yX1_init wsX1_init rm_X1_init [.ref ax, .ref ap] [(ax, .inr (1, [.null, .int 0, .int 0, .int 0, .int 0, .null, .null, .null, .null]))] (fun w => ∃ q0 q1 q2 q3 : Nat, w = [(ax, .inr (1, [.ref ap, .int 0, .int 0, .int 0, .int 0, .ref q0, .ref q1, .ref q2, .ref q3])), (q0, .inl (cI, 6, .inl (fun _ => 0))), (q1, .inl (cI, 6, .inl (fun _ => 0))), (q2, .inl (cI, 5, .inl (fun _ => 0))), (q3, .inl (cI, 5, .inl (fun _ => 0)))]) 4 22 := by
  refine CN.of (cc := cX1_init) (nL := 2) (by decide) rfl rfl (Nat.le_of_ble_eq_true rfl) ?_
  intro p e s m args below meth c A hC hO hin hP hD hS ls hl
  obtain ⟨hx, hb, hml, hown, hts, hr, hlk, hG, hA⟩ := id hC
  have hown : s.vm.findClass RX1 = some m.cls := hown
  have hK := hG.1
  have hl : lv_has ls 2 [(0, .ref ax), (1, .ref ap)] := hl
  have k_oi := hts (.methodLink RX1 3 objectInit) (List.mem_of_getElem? (i := 1) rfl)
  have k_oim := hts (.instanceMethod objectInit) (List.mem_of_getElem? (i := 2) rfl)
  have k_oic := hts (.code objectInit ⟨#[0xb1]⟩ 1 none) (List.mem_of_getElem? (i := 3) rfl)
  have k_arri := hts (.arrayClass .int) (List.mem_of_getElem? (i := 4) rfl)
  have k_f9 := hts (.fieldLink RX1 9 "ParasolHours$Moment" "hour" "[I") (List.mem_of_getElem? (i := 5) rfl)
  have k_f15 := hts (.fieldLink RX1 15 "ParasolHours$Moment" "worn" "[I") (List.mem_of_getElem? (i := 6) rfl)
  have k_f18 := hts (.fieldLink RX1 18 "ParasolHours$Moment" "square" "[I") (List.mem_of_getElem? (i := 7) rfl)
  have k_f21 := hts (.fieldLink RX1 21 "ParasolHours$Moment" "under" "[I") (List.mem_of_getElem? (i := 8) rfl)
  have k_f24 := hts (.fieldLink RX1 24 "ParasolHours$Moment" "plan" "LParasolHours$Plan;") (List.mem_of_getElem? (i := 9) rfl)
  have iX1 : ∀ w ∈ wsX10, w ∈ wsX1_init := by decide +kernel
  generalize hQ : MQ below (QN D (fun w => ∃ q0 q1 q2 q3 : Nat, w = [(ax, .inr (1, [.ref ap, .int 0, .int 0, .int 0, .int 0, .ref q0, .ref q1, .ref q2, .ref q3])), (q0, .inl (cI, 6, .inl (fun _ => 0))), (q1, .inl (cI, 6, .inl (fun _ => 0))), (q2, .inl (cI, 5, .inl (fun _ => 0))), (q3, .inl (cI, 5, .inl (fun _ => 0)))]) A) args s 4 22 A = Q
  refine lv_aload_n hx hb dX1_init_0 rfl (lv_at hl 0 rfl) ?_
  refine W.objInit hx hb hown k_oi k_oim k_oic rfl (by rw [hml]; exact hl.1) rfl dX1_init_1 (Nat.le_of_ble_eq_true rfl) (Nat.le_of_ble_eq_true rfl) ?_
  refine W.eq (g2 := F0 m 4 ls []) rfl ?_
  refine lv_aload_n hx hb dX1_init_4 rfl (lv_at hl 0 rfl) ?_
  refine lv_bipush (v := (6 : Int32)) hx hb dX1_init_5 (by decide) ?_
  refine nnewi hC k_arri hP hD hS (N' := 6) (by decide) (by decide) (Nat.le_of_ble_eq_true rfl) (Nat.le_of_ble_eq_true rfl) (Nat.le_of_ble_eq_true rfl) dX1_init_7 (fun q1 H hP hD hS => ?_)
  have hP : va_P D vwCl [(ax, .inr (1, [.null, .int 0, .int 0, .int 0, .int 0, .null, .null, .null, .null])), (q1, .inl (cI, 6, .inl (fun _ => 0)))] H := hP
  have hD : va_D A [(ax, .inr (1, [.null, .int 0, .int 0, .int 0, .int 0, .null, .null, .null, .null])), (q1, .inl (cI, 6, .inl (fun _ => 0)))] := hD
  refine W.widen (k := 1) (n := 6) (by omega) (by omega) ?_
  refine va_putF (D := D) (ci := 1) (v := .ref q1) (ty := .array .int) (C := RX1) (T := TX1) (N := 9) hx hb hts iX1 tyX1 tyX1_ok nmX1 hown hK hP hD hS 0 rfl rfl 5 (by decide) k_f9 (fun _ h9 => h9) rfl hin rfl (by decide +kernel) rfl rfl (Nat.le_of_ble_eq_true rfl) dX1_init_9 (fun H locs hP hD hS => ?_)
  have hP : va_P D vwCl [(ax, .inr (1, [.null, .int 0, .int 0, .int 0, .int 0, .ref q1, .null, .null, .null])), (q1, .inl (cI, 6, .inl (fun _ => 0)))] H := hP
  have hD : va_D A [(ax, .inr (1, [.null, .int 0, .int 0, .int 0, .int 0, .ref q1, .null, .null, .null])), (q1, .inl (cI, 6, .inl (fun _ => 0)))] := hD
  refine lv_aload_n hx hb dX1_init_12 rfl (lv_at hl 0 rfl) ?_
  refine lv_bipush (v := (6 : Int32)) hx hb dX1_init_13 (by decide) ?_
  refine nnewi hC k_arri hP hD hS (N' := 6) (by decide) (by decide) (Nat.le_of_ble_eq_true rfl) (Nat.le_of_ble_eq_true rfl) (Nat.le_of_ble_eq_true rfl) dX1_init_15 (fun q2 H hP hD hS => ?_)
  have hP : va_P D vwCl [(ax, .inr (1, [.null, .int 0, .int 0, .int 0, .int 0, .ref q1, .null, .null, .null])), (q1, .inl (cI, 6, .inl (fun _ => 0))), (q2, .inl (cI, 6, .inl (fun _ => 0)))] H := hP
  have hD : va_D A [(ax, .inr (1, [.null, .int 0, .int 0, .int 0, .int 0, .ref q1, .null, .null, .null])), (q1, .inl (cI, 6, .inl (fun _ => 0))), (q2, .inl (cI, 6, .inl (fun _ => 0)))] := hD
  refine W.widen (k := 2) (n := 12) (by omega) (by omega) ?_
  refine va_putF (D := D) (ci := 1) (v := .ref q2) (ty := .array .int) (C := RX1) (T := TX1) (N := 9) hx hb hts iX1 tyX1 tyX1_ok nmX1 hown hK hP hD hS 0 rfl rfl 6 (by decide) k_f15 (fun _ h9 => h9) rfl hin rfl (by decide +kernel) rfl rfl (Nat.le_of_ble_eq_true rfl) dX1_init_17 (fun H locs hP hD hS => ?_)
  have hP : va_P D vwCl [(ax, .inr (1, [.null, .int 0, .int 0, .int 0, .int 0, .ref q1, .ref q2, .null, .null])), (q1, .inl (cI, 6, .inl (fun _ => 0))), (q2, .inl (cI, 6, .inl (fun _ => 0)))] H := hP
  have hD : va_D A [(ax, .inr (1, [.null, .int 0, .int 0, .int 0, .int 0, .ref q1, .ref q2, .null, .null])), (q1, .inl (cI, 6, .inl (fun _ => 0))), (q2, .inl (cI, 6, .inl (fun _ => 0)))] := hD
  refine lv_aload_n hx hb dX1_init_20 rfl (lv_at hl 0 rfl) ?_
  refine lv_iconst (v := (5 : Int32)) hx hb dX1_init_21 (by decide) ?_
  refine nnewi hC k_arri hP hD hS (N' := 5) (by decide) (by decide) (Nat.le_of_ble_eq_true rfl) (Nat.le_of_ble_eq_true rfl) (Nat.le_of_ble_eq_true rfl) dX1_init_22 (fun q3 H hP hD hS => ?_)
  have hP : va_P D vwCl [(ax, .inr (1, [.null, .int 0, .int 0, .int 0, .int 0, .ref q1, .ref q2, .null, .null])), (q1, .inl (cI, 6, .inl (fun _ => 0))), (q2, .inl (cI, 6, .inl (fun _ => 0))), (q3, .inl (cI, 5, .inl (fun _ => 0)))] H := hP
  have hD : va_D A [(ax, .inr (1, [.null, .int 0, .int 0, .int 0, .int 0, .ref q1, .ref q2, .null, .null])), (q1, .inl (cI, 6, .inl (fun _ => 0))), (q2, .inl (cI, 6, .inl (fun _ => 0))), (q3, .inl (cI, 5, .inl (fun _ => 0)))] := hD
  refine W.widen (k := 3) (n := 17) (by omega) (by omega) ?_
  refine va_putF (D := D) (ci := 1) (v := .ref q3) (ty := .array .int) (C := RX1) (T := TX1) (N := 9) hx hb hts iX1 tyX1 tyX1_ok nmX1 hown hK hP hD hS 0 rfl rfl 7 (by decide) k_f18 (fun _ h9 => h9) rfl hin rfl (by decide +kernel) rfl rfl (Nat.le_of_ble_eq_true rfl) dX1_init_24 (fun H locs hP hD hS => ?_)
  have hP : va_P D vwCl [(ax, .inr (1, [.null, .int 0, .int 0, .int 0, .int 0, .ref q1, .ref q2, .ref q3, .null])), (q1, .inl (cI, 6, .inl (fun _ => 0))), (q2, .inl (cI, 6, .inl (fun _ => 0))), (q3, .inl (cI, 5, .inl (fun _ => 0)))] H := hP
  have hD : va_D A [(ax, .inr (1, [.null, .int 0, .int 0, .int 0, .int 0, .ref q1, .ref q2, .ref q3, .null])), (q1, .inl (cI, 6, .inl (fun _ => 0))), (q2, .inl (cI, 6, .inl (fun _ => 0))), (q3, .inl (cI, 5, .inl (fun _ => 0)))] := hD
  refine lv_aload_n hx hb dX1_init_27 rfl (lv_at hl 0 rfl) ?_
  refine lv_iconst (v := (5 : Int32)) hx hb dX1_init_28 (by decide) ?_
  refine nnewi hC k_arri hP hD hS (N' := 5) (by decide) (by decide) (Nat.le_of_ble_eq_true rfl) (Nat.le_of_ble_eq_true rfl) (Nat.le_of_ble_eq_true rfl) dX1_init_29 (fun q4 H hP hD hS => ?_)
  have hP : va_P D vwCl [(ax, .inr (1, [.null, .int 0, .int 0, .int 0, .int 0, .ref q1, .ref q2, .ref q3, .null])), (q1, .inl (cI, 6, .inl (fun _ => 0))), (q2, .inl (cI, 6, .inl (fun _ => 0))), (q3, .inl (cI, 5, .inl (fun _ => 0))), (q4, .inl (cI, 5, .inl (fun _ => 0)))] H := hP
  have hD : va_D A [(ax, .inr (1, [.null, .int 0, .int 0, .int 0, .int 0, .ref q1, .ref q2, .ref q3, .null])), (q1, .inl (cI, 6, .inl (fun _ => 0))), (q2, .inl (cI, 6, .inl (fun _ => 0))), (q3, .inl (cI, 5, .inl (fun _ => 0))), (q4, .inl (cI, 5, .inl (fun _ => 0)))] := hD
  refine W.widen (k := 4) (n := 22) (by omega) (by omega) ?_
  refine va_putF (D := D) (ci := 1) (v := .ref q4) (ty := .array .int) (C := RX1) (T := TX1) (N := 9) hx hb hts iX1 tyX1 tyX1_ok nmX1 hown hK hP hD hS 0 rfl rfl 8 (by decide) k_f21 (fun _ h9 => h9) rfl hin rfl (by decide +kernel) rfl rfl (Nat.le_of_ble_eq_true rfl) dX1_init_31 (fun H locs hP hD hS => ?_)
  have hP : va_P D vwCl [(ax, .inr (1, [.null, .int 0, .int 0, .int 0, .int 0, .ref q1, .ref q2, .ref q3, .ref q4])), (q1, .inl (cI, 6, .inl (fun _ => 0))), (q2, .inl (cI, 6, .inl (fun _ => 0))), (q3, .inl (cI, 5, .inl (fun _ => 0))), (q4, .inl (cI, 5, .inl (fun _ => 0)))] H := hP
  have hD : va_D A [(ax, .inr (1, [.null, .int 0, .int 0, .int 0, .int 0, .ref q1, .ref q2, .ref q3, .ref q4])), (q1, .inl (cI, 6, .inl (fun _ => 0))), (q2, .inl (cI, 6, .inl (fun _ => 0))), (q3, .inl (cI, 5, .inl (fun _ => 0))), (q4, .inl (cI, 5, .inl (fun _ => 0)))] := hD
  refine lv_aload_n hx hb dX1_init_34 rfl (lv_at hl 0 rfl) ?_
  refine lv_aload_n hx hb dX1_init_35 rfl (lv_at hl 1 rfl) ?_
  refine va_putF (D := D) (ci := 1) (v := .ref ap) (ty := .object "ParasolHours$Plan") (C := RX1) (T := TX1) (N := 9) hx hb hts iX1 tyX1 tyX1_ok nmX1 hown hK hP hD hS 0 rfl rfl 0 (by decide) k_f24 (fun _ h9 => h9) rfl hin rfl (by decide +kernel) rfl rfl (Nat.le_of_ble_eq_true rfl) dX1_init_36 (fun H locs hP hD hS => ?_)
  have hP : va_P D vwCl [(ax, .inr (1, [.ref ap, .int 0, .int 0, .int 0, .int 0, .ref q1, .ref q2, .ref q3, .ref q4])), (q1, .inl (cI, 6, .inl (fun _ => 0))), (q2, .inl (cI, 6, .inl (fun _ => 0))), (q3, .inl (cI, 5, .inl (fun _ => 0))), (q4, .inl (cI, 5, .inl (fun _ => 0)))] H := hP
  have hD : va_D A [(ax, .inr (1, [.ref ap, .int 0, .int 0, .int 0, .int 0, .ref q1, .ref q2, .ref q3, .ref q4])), (q1, .inl (cI, 6, .inl (fun _ => 0))), (q2, .inl (cI, 6, .inl (fun _ => 0))), (q3, .inl (cI, 5, .inl (fun _ => 0))), (q4, .inl (cI, 5, .inl (fun _ => 0)))] := hD
  have hP := hP.sub (ws' := [(ax, .inr (1, [.ref ap, .int 0, .int 0, .int 0, .int 0, .ref q1, .ref q2, .ref q3, .ref q4])), (q1, .inl (cI, 6, .inl (fun _ => 0))), (q2, .inl (cI, 6, .inl (fun _ => 0))), (q3, .inl (cI, 5, .inl (fun _ => 0))), (q4, .inl (cI, 5, .inl (fun _ => 0)))]) [0, 1, 2, 3, 4] rfl
  have hD := hD.sub (ws' := [(ax, .inr (1, [.ref ap, .int 0, .int 0, .int 0, .int 0, .ref q1, .ref q2, .ref q3, .ref q4])), (q1, .inl (cI, 6, .inl (fun _ => 0))), (q2, .inl (cI, 6, .inl (fun _ => 0))), (q3, .inl (cI, 5, .inl (fun _ => 0))), (q4, .inl (cI, 5, .inl (fun _ => 0)))]) [0, 1, 2, 3, 4] (by decide) rfl
  rw [← hQ]
  exact xrn hC ⟨q1, q2, q3, q4, rfl⟩ hP hD hS dX1_init_39

def rm_X3_init : Room := { frames := 2, cells := 10, slots := 59, locals := 33 }
set_option maxHeartbeats 4000000 in
set_option maxRecDepth 100000 in
theorem c_X3_init (l : Launch) (D : va_G) (cI cC cM : ClassId) (ax : Nat) : CN l D cI cC cM yX3_init wsX3_init rm_X3_init [.ref ax] [(ax, .inr (3, [.null, .null, .null]))] (fun w => ∃ q0 q1 q2 q3 q4 q5 q6 q7 q8 q9 : Nat, w = [(ax, .inr (3, [.ref q0, .ref q4, .ref q9])), (q0, .inr (2, [.int 0, .int 0, .int 0, .int 0, .ref q1, .ref q2, .ref q3])), (q1, .inl (cI, 6, .inl (fun _ => 0))), (q2, .inl (cI, 6, .inl (fun _ => 0))), (q3, .inl (cI, 6, .inl (fun _ => 0))), (q4, .inr (1, [.ref q0, .int 0, .int 0, .int 0, .int 0, .ref q5, .ref q6, .ref q7, .ref q8])), (q5, .inl (cI, 6, .inl (fun _ => 0))), (q6, .inl (cI, 6, .inl (fun _ => 0))), (q7, .inl (cI, 5, .inl (fun _ => 0))), (q8, .inl (cI, 5, .inl (fun _ => 0))), (q9, .inl (cI, 3, .inl (fun _ => 0)))]) 10 59 := by
  refine CN.of (cc := cX3_init) (nL := 1) (by decide) rfl rfl (Nat.le_of_ble_eq_true rfl) ?_
  intro p e s m args below meth c A hC hO hin hP hD hS ls hl
  obtain ⟨hx, hb, hml, hown, hts, hr, hlk, hG, hA⟩ := id hC
  have hown : s.vm.findClass RX3 = some m.cls := hown
  have hK := hG.1
  have hl : lv_has ls 1 [(0, .ref ax)] := hl
  have k_oi := hts (.methodLink RX3 3 objectInit) (List.mem_of_getElem? (i := 1) rfl)
  have k_oim := hts (.instanceMethod objectInit) (List.mem_of_getElem? (i := 2) rfl)
  have k_oic := hts (.code objectInit ⟨#[0xb1]⟩ 1 none) (List.mem_of_getElem? (i := 3) rfl)
  have k_c9 := hts (.classLink RX3 9 RX2) (List.mem_of_getElem? (i := 4) rfl)
  have k_in2 := hts (.instantiable RX2 7) (List.mem_of_getElem? (i := 5) rfl)
  have k_ini2 := hts (.initialized RX2) (List.mem_of_getElem? (i := 6) rfl)
  have k_im2 := hts (.instanceMethod yX2_init) (List.mem_of_getElem? (i := 14) rfl)
  have k_f12 := hts (.fieldLink RX3 12 "ParasolHours$Reader" "plan" "LParasolHours$Plan;") (List.mem_of_getElem? (i := 7) rfl)
  have k_c18 := hts (.classLink RX3 18 RX1) (List.mem_of_getElem? (i := 8) rfl)
  have k_in1 := hts (.instantiable RX1 9) (List.mem_of_getElem? (i := 9) rfl)
  have k_ini1 := hts (.initialized RX1) (List.mem_of_getElem? (i := 10) rfl)
  have k_im1 := hts (.instanceMethod yX1_init) (List.mem_of_getElem? (i := 21) rfl)
  have k_ml20 := hts (.methodLink RX3 20 yX1_init) (List.mem_of_getElem? (i := 20) rfl)
  have k_f23 := hts (.fieldLink RX3 23 "ParasolHours$Reader" "start" "LParasolHours$Moment;") (List.mem_of_getElem? (i := 11) rfl)
  have k_arri := hts (.arrayClass .int) (List.mem_of_getElem? (i := 12) rfl)
  have k_f27 := hts (.fieldLink RX3 27 "ParasolHours$Reader" "numbers" "[I") (List.mem_of_getElem? (i := 13) rfl)
  have iX1 : ∀ w ∈ wsX10, w ∈ wsX3_init := by decide +kernel
  have iX2 : ∀ w ∈ wsX20, w ∈ wsX3_init := by decide +kernel
  have iX3 : ∀ w ∈ wsX30, w ∈ wsX3_init := by decide +kernel
  generalize hQ : MQ below (QN D (fun w => ∃ q0 q1 q2 q3 q4 q5 q6 q7 q8 q9 : Nat, w = [(ax, .inr (3, [.ref q0, .ref q4, .ref q9])), (q0, .inr (2, [.int 0, .int 0, .int 0, .int 0, .ref q1, .ref q2, .ref q3])), (q1, .inl (cI, 6, .inl (fun _ => 0))), (q2, .inl (cI, 6, .inl (fun _ => 0))), (q3, .inl (cI, 6, .inl (fun _ => 0))), (q4, .inr (1, [.ref q0, .int 0, .int 0, .int 0, .int 0, .ref q5, .ref q6, .ref q7, .ref q8])), (q5, .inl (cI, 6, .inl (fun _ => 0))), (q6, .inl (cI, 6, .inl (fun _ => 0))), (q7, .inl (cI, 5, .inl (fun _ => 0))), (q8, .inl (cI, 5, .inl (fun _ => 0))), (q9, .inl (cI, 3, .inl (fun _ => 0)))]) A) args s 10 59 A = Q
  refine lv_aload_n hx hb dX3_init_0 rfl (lv_at hl 0 rfl) ?_
  refine W.objInit hx hb hown k_oi k_oim k_oic rfl (by rw [hml]; exact hl.1) rfl dX3_init_1 (Nat.le_of_ble_eq_true rfl) (Nat.le_of_ble_eq_true rfl) ?_
  refine W.eq (g2 := F0 m 4 ls []) rfl ?_
  refine lv_aload_n hx hb dX3_init_4 rfl (lv_at hl 0 rfl) ?_
  refine va_new (ci := 2) (fs := [.int 0, .int 0, .int 0, .int 0, .null, .null, .null]) (C := RX2) (T := TX2) (N := 7) hx hb hts iX2 tyX2 tyX2_ok hown k_c9 k_in2 k_ini2 hK hP hD hS hA rfl (fun j hj => by rcases (show j = 0 ∨ j = 1 ∨ j = 2 ∨ j = 3 ∨ j = 4 ∨ j = 5 ∨ j = 6 by omega) with rfl | rfl | rfl | rfl | rfl | rfl | rfl <;> rfl) (Nat.le_of_ble_eq_true rfl) (Nat.le_of_ble_eq_true rfl) dX3_init_5 (fun q1 H hP hD hS => ?_)
  have hP : va_P D vwCl [(ax, .inr (3, [.null, .null, .null])), (q1, .inr (2, [.int 0, .int 0, .int 0, .int 0, .null, .null, .null]))] H := hP
  have hD : va_D A [(ax, .inr (3, [.null, .null, .null])), (q1, .inr (2, [.int 0, .int 0, .int 0, .int 0, .null, .null, .null]))] := hD
  refine W.widen (k := 1) (n := 7) (by omega) (by omega) ?_
  refine lv_dup hx hb dX3_init_8 rfl ?_
  refine xCN (As := []) (rest := [.ref q1, .ref ax]) (wr := [(ax, .inr (3, [.null, .null, .null]))]) hC hO hP hD hS [1] [0] (c_X2_init l D cI cC cM q1) ⟨va_cnB 0 hts gX3_init_X2_init_n11 rfl rfl rfl (hG.nw 2 rfl) k_ini2 (by decide +kernel) ⟨Nat.le_of_ble_eq_true rfl, Nat.le_of_ble_eq_true rfl⟩, rfl, k_im2⟩ rfl rfl rfl (by decide) (by decide) rfl hl.1 rfl (Nat.le_of_ble_eq_true rfl) dX3_init_9 ⟨Nat.le_of_ble_eq_true rfl, Nat.le_of_ble_eq_true rfl⟩ (fun w1 H locs hw hP hD hS => ?_)
  obtain ⟨q2, q3, q4, rfl⟩ := hw
  have hP : va_P D vwCl [(ax, .inr (3, [.null, .null, .null])), (q1, .inr (2, [.int 0, .int 0, .int 0, .int 0, .ref q2, .ref q3, .ref q4])), (q2, .inl (cI, 6, .inl (fun _ => 0))), (q3, .inl (cI, 6, .inl (fun _ => 0))), (q4, .inl (cI, 6, .inl (fun _ => 0)))] H := hP
  have hD : va_D A [(ax, .inr (3, [.null, .null, .null])), (q1, .inr (2, [.int 0, .int 0, .int 0, .int 0, .ref q2, .ref q3, .ref q4])), (q2, .inl (cI, 6, .inl (fun _ => 0))), (q3, .inl (cI, 6, .inl (fun _ => 0))), (q4, .inl (cI, 6, .inl (fun _ => 0)))] := hD
  refine W.widen (k := 4) (n := 25) (by omega) (by omega) ?_
  refine va_putF (D := D) (ci := 3) (v := .ref q1) (ty := .object "ParasolHours$Plan") (C := RX3) (T := TX3) (N := 3) hx hb hts iX3 tyX3 tyX3_ok nmX3 hown hK hP hD hS 0 rfl rfl 0 (by decide) k_f12 (fun _ h9 => h9) rfl hin rfl (by decide +kernel) rfl rfl (Nat.le_of_ble_eq_true rfl) dX3_init_12 (fun H locs hP hD hS => ?_)
  have hP : va_P D vwCl [(ax, .inr (3, [.ref q1, .null, .null])), (q1, .inr (2, [.int 0, .int 0, .int 0, .int 0, .ref q2, .ref q3, .ref q4])), (q2, .inl (cI, 6, .inl (fun _ => 0))), (q3, .inl (cI, 6, .inl (fun _ => 0))), (q4, .inl (cI, 6, .inl (fun _ => 0)))] H := hP
  have hD : va_D A [(ax, .inr (3, [.ref q1, .null, .null])), (q1, .inr (2, [.int 0, .int 0, .int 0, .int 0, .ref q2, .ref q3, .ref q4])), (q2, .inl (cI, 6, .inl (fun _ => 0))), (q3, .inl (cI, 6, .inl (fun _ => 0))), (q4, .inl (cI, 6, .inl (fun _ => 0)))] := hD
  refine lv_aload_n hx hb dX3_init_15 rfl (lv_at hl 0 rfl) ?_
  refine va_new (ci := 1) (fs := [.null, .int 0, .int 0, .int 0, .int 0, .null, .null, .null, .null]) (C := RX1) (T := TX1) (N := 9) hx hb hts iX1 tyX1 tyX1_ok hown k_c18 k_in1 k_ini1 hK hP hD hS hA rfl (fun j hj => by rcases (show j = 0 ∨ j = 1 ∨ j = 2 ∨ j = 3 ∨ j = 4 ∨ j = 5 ∨ j = 6 ∨ j = 7 ∨ j = 8 by omega) with rfl | rfl | rfl | rfl | rfl | rfl | rfl | rfl | rfl <;> rfl) (Nat.le_of_ble_eq_true rfl) (Nat.le_of_ble_eq_true rfl) dX3_init_16 (fun q5 H hP hD hS => ?_)
  have hP : va_P D vwCl [(ax, .inr (3, [.ref q1, .null, .null])), (q1, .inr (2, [.int 0, .int 0, .int 0, .int 0, .ref q2, .ref q3, .ref q4])), (q2, .inl (cI, 6, .inl (fun _ => 0))), (q3, .inl (cI, 6, .inl (fun _ => 0))), (q4, .inl (cI, 6, .inl (fun _ => 0))), (q5, .inr (1, [.null, .int 0, .int 0, .int 0, .int 0, .null, .null, .null, .null]))] H := hP
  have hD : va_D A [(ax, .inr (3, [.ref q1, .null, .null])), (q1, .inr (2, [.int 0, .int 0, .int 0, .int 0, .ref q2, .ref q3, .ref q4])), (q2, .inl (cI, 6, .inl (fun _ => 0))), (q3, .inl (cI, 6, .inl (fun _ => 0))), (q4, .inl (cI, 6, .inl (fun _ => 0))), (q5, .inr (1, [.null, .int 0, .int 0, .int 0, .int 0, .null, .null, .null, .null]))] := hD
  refine W.widen (k := 5) (n := 34) (by omega) (by omega) ?_
  refine lv_dup hx hb dX3_init_19 rfl ?_
  refine lv_aload_n hx hb dX3_init_20 rfl (lv_at hl 0 rfl) ?_
  refine va_get (D := D) (ci := 3) (v := .ref q1) (C := RX3) (T := TX3) (N := 3) hx hb hts iX3 hown hK hP 0 rfl rfl 0 (by decide) k_f12 (fun _ h9 => h9) rfl dX3_init_21 ?_
  refine xCI (As := [.ref q1]) (rest := [.ref q5, .ref ax]) (wr := [(ax, .inr (3, [.ref q1, .null, .null])), (q1, .inr (2, [.int 0, .int 0, .int 0, .int 0, .ref q2, .ref q3, .ref q4])), (q2, .inl (cI, 6, .inl (fun _ => 0))), (q3, .inl (cI, 6, .inl (fun _ => 0))), (q4, .inl (cI, 6, .inl (fun _ => 0)))]) hC hO hP hD hS [5] [0, 1, 2, 3, 4] (c_X1_init l D cI cC cM q5 q1) (cwI 1 hts gX3_init_X1_init rfl rfl rfl k_ini1 k_ml20 k_im1 rfl (by decide +kernel) ⟨Nat.le_of_ble_eq_true rfl, Nat.le_of_ble_eq_true rfl⟩) rfl rfl rfl (by decide) (by decide) rfl hl.1 rfl (Nat.le_of_ble_eq_true rfl) dX3_init_24 ⟨Nat.le_of_ble_eq_true rfl, Nat.le_of_ble_eq_true rfl⟩ (fun w1 H locs hw hP hD hS => ?_)
  obtain ⟨q6, q7, q8, q9, rfl⟩ := hw
  have hP : va_P D vwCl [(ax, .inr (3, [.ref q1, .null, .null])), (q1, .inr (2, [.int 0, .int 0, .int 0, .int 0, .ref q2, .ref q3, .ref q4])), (q2, .inl (cI, 6, .inl (fun _ => 0))), (q3, .inl (cI, 6, .inl (fun _ => 0))), (q4, .inl (cI, 6, .inl (fun _ => 0))), (q5, .inr (1, [.ref q1, .int 0, .int 0, .int 0, .int 0, .ref q6, .ref q7, .ref q8, .ref q9])), (q6, .inl (cI, 6, .inl (fun _ => 0))), (q7, .inl (cI, 6, .inl (fun _ => 0))), (q8, .inl (cI, 5, .inl (fun _ => 0))), (q9, .inl (cI, 5, .inl (fun _ => 0)))] H := hP
  have hD : va_D A [(ax, .inr (3, [.ref q1, .null, .null])), (q1, .inr (2, [.int 0, .int 0, .int 0, .int 0, .ref q2, .ref q3, .ref q4])), (q2, .inl (cI, 6, .inl (fun _ => 0))), (q3, .inl (cI, 6, .inl (fun _ => 0))), (q4, .inl (cI, 6, .inl (fun _ => 0))), (q5, .inr (1, [.ref q1, .int 0, .int 0, .int 0, .int 0, .ref q6, .ref q7, .ref q8, .ref q9])), (q6, .inl (cI, 6, .inl (fun _ => 0))), (q7, .inl (cI, 6, .inl (fun _ => 0))), (q8, .inl (cI, 5, .inl (fun _ => 0))), (q9, .inl (cI, 5, .inl (fun _ => 0)))] := hD
  refine W.widen (k := 9) (n := 56) (by omega) (by omega) ?_
  refine va_putF (D := D) (ci := 3) (v := .ref q5) (ty := .object "ParasolHours$Moment") (C := RX3) (T := TX3) (N := 3) hx hb hts iX3 tyX3 tyX3_ok nmX3 hown hK hP hD hS 0 rfl rfl 1 (by decide) k_f23 (fun _ h9 => h9) rfl hin rfl (by decide +kernel) rfl rfl (Nat.le_of_ble_eq_true rfl) dX3_init_27 (fun H locs hP hD hS => ?_)
  have hP : va_P D vwCl [(ax, .inr (3, [.ref q1, .ref q5, .null])), (q1, .inr (2, [.int 0, .int 0, .int 0, .int 0, .ref q2, .ref q3, .ref q4])), (q2, .inl (cI, 6, .inl (fun _ => 0))), (q3, .inl (cI, 6, .inl (fun _ => 0))), (q4, .inl (cI, 6, .inl (fun _ => 0))), (q5, .inr (1, [.ref q1, .int 0, .int 0, .int 0, .int 0, .ref q6, .ref q7, .ref q8, .ref q9])), (q6, .inl (cI, 6, .inl (fun _ => 0))), (q7, .inl (cI, 6, .inl (fun _ => 0))), (q8, .inl (cI, 5, .inl (fun _ => 0))), (q9, .inl (cI, 5, .inl (fun _ => 0)))] H := hP
  have hD : va_D A [(ax, .inr (3, [.ref q1, .ref q5, .null])), (q1, .inr (2, [.int 0, .int 0, .int 0, .int 0, .ref q2, .ref q3, .ref q4])), (q2, .inl (cI, 6, .inl (fun _ => 0))), (q3, .inl (cI, 6, .inl (fun _ => 0))), (q4, .inl (cI, 6, .inl (fun _ => 0))), (q5, .inr (1, [.ref q1, .int 0, .int 0, .int 0, .int 0, .ref q6, .ref q7, .ref q8, .ref q9])), (q6, .inl (cI, 6, .inl (fun _ => 0))), (q7, .inl (cI, 6, .inl (fun _ => 0))), (q8, .inl (cI, 5, .inl (fun _ => 0))), (q9, .inl (cI, 5, .inl (fun _ => 0)))] := hD
  refine lv_aload_n hx hb dX3_init_30 rfl (lv_at hl 0 rfl) ?_
  refine lv_iconst (v := (3 : Int32)) hx hb dX3_init_31 (by decide) ?_
  refine nnewi hC k_arri hP hD hS (N' := 3) (by decide) (by decide) (Nat.le_of_ble_eq_true rfl) (Nat.le_of_ble_eq_true rfl) (Nat.le_of_ble_eq_true rfl) dX3_init_32 (fun q10 H hP hD hS => ?_)
  have hP : va_P D vwCl [(ax, .inr (3, [.ref q1, .ref q5, .null])), (q1, .inr (2, [.int 0, .int 0, .int 0, .int 0, .ref q2, .ref q3, .ref q4])), (q2, .inl (cI, 6, .inl (fun _ => 0))), (q3, .inl (cI, 6, .inl (fun _ => 0))), (q4, .inl (cI, 6, .inl (fun _ => 0))), (q5, .inr (1, [.ref q1, .int 0, .int 0, .int 0, .int 0, .ref q6, .ref q7, .ref q8, .ref q9])), (q6, .inl (cI, 6, .inl (fun _ => 0))), (q7, .inl (cI, 6, .inl (fun _ => 0))), (q8, .inl (cI, 5, .inl (fun _ => 0))), (q9, .inl (cI, 5, .inl (fun _ => 0))), (q10, .inl (cI, 3, .inl (fun _ => 0)))] H := hP
  have hD : va_D A [(ax, .inr (3, [.ref q1, .ref q5, .null])), (q1, .inr (2, [.int 0, .int 0, .int 0, .int 0, .ref q2, .ref q3, .ref q4])), (q2, .inl (cI, 6, .inl (fun _ => 0))), (q3, .inl (cI, 6, .inl (fun _ => 0))), (q4, .inl (cI, 6, .inl (fun _ => 0))), (q5, .inr (1, [.ref q1, .int 0, .int 0, .int 0, .int 0, .ref q6, .ref q7, .ref q8, .ref q9])), (q6, .inl (cI, 6, .inl (fun _ => 0))), (q7, .inl (cI, 6, .inl (fun _ => 0))), (q8, .inl (cI, 5, .inl (fun _ => 0))), (q9, .inl (cI, 5, .inl (fun _ => 0))), (q10, .inl (cI, 3, .inl (fun _ => 0)))] := hD
  refine W.widen (k := 10) (n := 59) (by omega) (by omega) ?_
  refine va_putF (D := D) (ci := 3) (v := .ref q10) (ty := .array .int) (C := RX3) (T := TX3) (N := 3) hx hb hts iX3 tyX3 tyX3_ok nmX3 hown hK hP hD hS 0 rfl rfl 2 (by decide) k_f27 (fun _ h9 => h9) rfl hin rfl (by decide +kernel) rfl rfl (Nat.le_of_ble_eq_true rfl) dX3_init_34 (fun H locs hP hD hS => ?_)
  have hP : va_P D vwCl [(ax, .inr (3, [.ref q1, .ref q5, .ref q10])), (q1, .inr (2, [.int 0, .int 0, .int 0, .int 0, .ref q2, .ref q3, .ref q4])), (q2, .inl (cI, 6, .inl (fun _ => 0))), (q3, .inl (cI, 6, .inl (fun _ => 0))), (q4, .inl (cI, 6, .inl (fun _ => 0))), (q5, .inr (1, [.ref q1, .int 0, .int 0, .int 0, .int 0, .ref q6, .ref q7, .ref q8, .ref q9])), (q6, .inl (cI, 6, .inl (fun _ => 0))), (q7, .inl (cI, 6, .inl (fun _ => 0))), (q8, .inl (cI, 5, .inl (fun _ => 0))), (q9, .inl (cI, 5, .inl (fun _ => 0))), (q10, .inl (cI, 3, .inl (fun _ => 0)))] H := hP
  have hD : va_D A [(ax, .inr (3, [.ref q1, .ref q5, .ref q10])), (q1, .inr (2, [.int 0, .int 0, .int 0, .int 0, .ref q2, .ref q3, .ref q4])), (q2, .inl (cI, 6, .inl (fun _ => 0))), (q3, .inl (cI, 6, .inl (fun _ => 0))), (q4, .inl (cI, 6, .inl (fun _ => 0))), (q5, .inr (1, [.ref q1, .int 0, .int 0, .int 0, .int 0, .ref q6, .ref q7, .ref q8, .ref q9])), (q6, .inl (cI, 6, .inl (fun _ => 0))), (q7, .inl (cI, 6, .inl (fun _ => 0))), (q8, .inl (cI, 5, .inl (fun _ => 0))), (q9, .inl (cI, 5, .inl (fun _ => 0))), (q10, .inl (cI, 3, .inl (fun _ => 0)))] := hD
  have hP := hP.sub (ws' := [(ax, .inr (3, [.ref q1, .ref q5, .ref q10])), (q1, .inr (2, [.int 0, .int 0, .int 0, .int 0, .ref q2, .ref q3, .ref q4])), (q2, .inl (cI, 6, .inl (fun _ => 0))), (q3, .inl (cI, 6, .inl (fun _ => 0))), (q4, .inl (cI, 6, .inl (fun _ => 0))), (q5, .inr (1, [.ref q1, .int 0, .int 0, .int 0, .int 0, .ref q6, .ref q7, .ref q8, .ref q9])), (q6, .inl (cI, 6, .inl (fun _ => 0))), (q7, .inl (cI, 6, .inl (fun _ => 0))), (q8, .inl (cI, 5, .inl (fun _ => 0))), (q9, .inl (cI, 5, .inl (fun _ => 0))), (q10, .inl (cI, 3, .inl (fun _ => 0)))]) [0, 1, 2, 3, 4, 5, 6, 7, 8, 9, 10] rfl
  have hD := hD.sub (ws' := [(ax, .inr (3, [.ref q1, .ref q5, .ref q10])), (q1, .inr (2, [.int 0, .int 0, .int 0, .int 0, .ref q2, .ref q3, .ref q4])), (q2, .inl (cI, 6, .inl (fun _ => 0))), (q3, .inl (cI, 6, .inl (fun _ => 0))), (q4, .inl (cI, 6, .inl (fun _ => 0))), (q5, .inr (1, [.ref q1, .int 0, .int 0, .int 0, .int 0, .ref q6, .ref q7, .ref q8, .ref q9])), (q6, .inl (cI, 6, .inl (fun _ => 0))), (q7, .inl (cI, 6, .inl (fun _ => 0))), (q8, .inl (cI, 5, .inl (fun _ => 0))), (q9, .inl (cI, 5, .inl (fun _ => 0))), (q10, .inl (cI, 3, .inl (fun _ => 0)))]) [0, 1, 2, 3, 4, 5, 6, 7, 8, 9, 10] (by decide) rfl
  rw [← hQ]
  exact xrn hC ⟨q1, q2, q3, q4, q5, q6, q7, q8, q9, q10, rfl⟩ hP hD hS dX3_init_37
