def f_X8_isParasol (m_law : (Nat → Int32)) (i : Int32) : Option Int32 := (Option.bind (f_X8_in i (0 : Int32) ((m_law (1 : Int32).toNatClampNeg) - (1 : Int32))) fun r1 => (if okz r1 = true then (some r1) else none))

def rm_X8_isParasol : Room := { frames := 1, cells := 0, slots := 0, locals := 22 }

theorem pd_X8_isParasol : yX8_isParasol.cls ≠ "java/lang/invoke/MethodHandle" ∧ yX8_isParasol.cls ≠ "java/lang/invoke/VarHandle" ∧ (parseMethodDescriptor yX8_isParasol.desc).map (fun d => d.parameters.length) = some 1 := by decide +kernel

set_option maxHeartbeats 4000000 in
set_option maxRecDepth 100000 in
theorem c_X8_isParasol (l : Launch) (D : va_G) (cI cC cM : ClassId) (ax a_law a_text a_told a_readLaw a_readNow a_now a_tried a_undos a_seenHour a_seenAt a_parts a_partsThen a_kept : Nat) (m_letterMany : Int32) (m_readAt : Int32) (m_undoMany : Int32) (m_undoAt : Int32) (m_seenMany : Int32) (m_keptMany : Int32) (m_law : (Nat → Int32)) (i : Int32) (rr : Int32) (hF : f_X8_isParasol m_law i = some rr) : CI l D cI cC cM yX8_isParasol wsX8_isParasol rm_X8_isParasol [.ref ax, .int i] [(ax, .inr (8, [.int m_letterMany, .ref a_text, .int m_readAt, .ref a_told, .ref a_readLaw, .ref a_readNow, .ref a_law, .ref a_now, .ref a_tried, .int m_undoMany, .int m_undoAt, .ref a_undos, .int m_seenMany, .ref a_seenHour, .ref a_seenAt, .ref a_parts, .ref a_partsThen, .int m_keptMany, .ref a_kept])), (a_law, .inl (cI, 22, .inl m_law))] [(ax, .inr (8, [.int m_letterMany, .ref a_text, .int m_readAt, .ref a_told, .ref a_readLaw, .ref a_readNow, .ref a_law, .ref a_now, .ref a_tried, .int m_undoMany, .int m_undoAt, .ref a_undos, .int m_seenMany, .ref a_seenHour, .ref a_seenAt, .ref a_parts, .ref a_partsThen, .int m_keptMany, .ref a_kept])), (a_law, .inl (cI, 22, .inl m_law))] rr := by
  refine CI.of (cc := cX8_isParasol) (nL := 2) (ret := (some .boolean)) (by decide) rfl (Nat.le_of_ble_eq_true rfl) ?_
  intro p e s m args below meth c A hC hP hD hS ls hl
  obtain ⟨hx, hb, hml, hown, hts, hr, hlk, hG, hA⟩ := id hC
  have hown : s.vm.findClass RX8 = some m.cls := hown
  have hK := hG.1
  have hl : lv_has ls 2 [(0, .ref ax), (1, .int i)] := hl
  have k_f22 := hts (.fieldLink RX8 22 "ParasolHoursModel" "law" "[I") (List.mem_of_getElem? (i := 1) rfl)
  have iX8 : ∀ w ∈ wsX80, w ∈ wsX8_isParasol := by decide +kernel
  obtain ⟨Q, hQ⟩ : ∃ Q, Q = MQ below (QI D [(ax, .inr (8, [.int m_letterMany, .ref a_text, .int m_readAt, .ref a_told, .ref a_readLaw, .ref a_readNow, .ref a_law, .ref a_now, .ref a_tried, .int m_undoMany, .int m_undoAt, .ref a_undos, .int m_seenMany, .ref a_seenHour, .ref a_seenAt, .ref a_parts, .ref a_partsThen, .int m_keptMany, .ref a_kept])), (a_law, .inl (cI, 22, .inl m_law))] rr A) args s 0 0 A := ⟨_, rfl⟩
  rw [← hQ]
  unfold f_X8_isParasol at hF
  refine lv_iload_n hx hb dX8_isParasol_0 rfl (lv_at hl 1 rfl) ?_
  refine lv_iconst (v := (0 : Int32)) hx hb dX8_isParasol_1 (by decide) ?_
  refine lv_aload_n hx hb dX8_isParasol_2 rfl (lv_at hl 0 rfl) ?_
  refine va_get (D := D) (ci := 8) (v := .ref a_law) (C := RX8) (T := TX8) (N := 19) hx hb hts iX8 hown hK hP 0 rfl rfl 6 (by decide) k_f22 (fun _ h9 => h9) rfl dX8_isParasol_3 ?_
  refine lv_iconst (v := (1 : Int32)) hx hb dX8_isParasol_6 (by decide) ?_
  refine va_iald hx hb hK hP 1 0 rfl rfl (okb_in (by decide)) dX8_isParasol_7 ?_
  refine lv_iconst (v := (1 : Int32)) hx hb dX8_isParasol_8 (by decide) ?_
  refine lv_isub hx hb dX8_isParasol_9 ?_
  obtain ⟨r1, hb2, hF⟩ := op_bind hF
  refine xSr (As := [.int i, .int (0 : Int32), .int ((m_law (1 : Int32).toNatClampNeg) - (1 : Int32))]) (rest := []) hC hP hD hS [] (c_X8_in l D cI cC cM i (0 : Int32) ((m_law (1 : Int32).toNatClampNeg) - (1 : Int32)) r1 hb2) (va_cwS 3 hts gX8_isParasol_X8_in rfl rfl rfl pd_X8_in ⟨Nat.le_of_ble_eq_true rfl, Nat.le_of_ble_eq_true rfl⟩) rfl rfl rfl hl.1 rfl (Nat.le_of_ble_eq_true rfl) dX8_isParasol_10 ⟨Nat.zero_le _, Nat.zero_le _⟩ (fun H locs hP hS => ?_)
  obtain ⟨z3, hF⟩ := op_ob hF
  cases hF
  rw [hQ]
  exact xrz hC (okz_n z3) hP hS dX8_isParasol_13

def f_X8_isPerson (m_law : (Nat → Int32)) (i : Int32) : Option Int32 := (Option.bind (f_X8_in i (0 : Int32) ((m_law (2 : Int32).toNatClampNeg) - (1 : Int32))) fun r1 => (if okz r1 = true then (some r1) else none))

def rm_X8_isPerson : Room := { frames := 1, cells := 0, slots := 0, locals := 22 }

theorem pd_X8_isPerson : yX8_isPerson.cls ≠ "java/lang/invoke/MethodHandle" ∧ yX8_isPerson.cls ≠ "java/lang/invoke/VarHandle" ∧ (parseMethodDescriptor yX8_isPerson.desc).map (fun d => d.parameters.length) = some 1 := by decide +kernel

set_option maxHeartbeats 4000000 in
set_option maxRecDepth 100000 in
theorem c_X8_isPerson (l : Launch) (D : va_G) (cI cC cM : ClassId) (ax a_law a_text a_told a_readLaw a_readNow a_now a_tried a_undos a_seenHour a_seenAt a_parts a_partsThen a_kept : Nat) (m_letterMany : Int32) (m_readAt : Int32) (m_undoMany : Int32) (m_undoAt : Int32) (m_seenMany : Int32) (m_keptMany : Int32) (m_law : (Nat → Int32)) (i : Int32) (rr : Int32) (hF : f_X8_isPerson m_law i = some rr) : CI l D cI cC cM yX8_isPerson wsX8_isPerson rm_X8_isPerson [.ref ax, .int i] [(ax, .inr (8, [.int m_letterMany, .ref a_text, .int m_readAt, .ref a_told, .ref a_readLaw, .ref a_readNow, .ref a_law, .ref a_now, .ref a_tried, .int m_undoMany, .int m_undoAt, .ref a_undos, .int m_seenMany, .ref a_seenHour, .ref a_seenAt, .ref a_parts, .ref a_partsThen, .int m_keptMany, .ref a_kept])), (a_law, .inl (cI, 22, .inl m_law))] [(ax, .inr (8, [.int m_letterMany, .ref a_text, .int m_readAt, .ref a_told, .ref a_readLaw, .ref a_readNow, .ref a_law, .ref a_now, .ref a_tried, .int m_undoMany, .int m_undoAt, .ref a_undos, .int m_seenMany, .ref a_seenHour, .ref a_seenAt, .ref a_parts, .ref a_partsThen, .int m_keptMany, .ref a_kept])), (a_law, .inl (cI, 22, .inl m_law))] rr := by
  refine CI.of (cc := cX8_isPerson) (nL := 2) (ret := (some .boolean)) (by decide) rfl (Nat.le_of_ble_eq_true rfl) ?_
  intro p e s m args below meth c A hC hP hD hS ls hl
  obtain ⟨hx, hb, hml, hown, hts, hr, hlk, hG, hA⟩ := id hC
  have hown : s.vm.findClass RX8 = some m.cls := hown
  have hK := hG.1
  have hl : lv_has ls 2 [(0, .ref ax), (1, .int i)] := hl
  have k_f22 := hts (.fieldLink RX8 22 "ParasolHoursModel" "law" "[I") (List.mem_of_getElem? (i := 1) rfl)
  have iX8 : ∀ w ∈ wsX80, w ∈ wsX8_isPerson := by decide +kernel
  obtain ⟨Q, hQ⟩ : ∃ Q, Q = MQ below (QI D [(ax, .inr (8, [.int m_letterMany, .ref a_text, .int m_readAt, .ref a_told, .ref a_readLaw, .ref a_readNow, .ref a_law, .ref a_now, .ref a_tried, .int m_undoMany, .int m_undoAt, .ref a_undos, .int m_seenMany, .ref a_seenHour, .ref a_seenAt, .ref a_parts, .ref a_partsThen, .int m_keptMany, .ref a_kept])), (a_law, .inl (cI, 22, .inl m_law))] rr A) args s 0 0 A := ⟨_, rfl⟩
  rw [← hQ]
  unfold f_X8_isPerson at hF
  refine lv_iload_n hx hb dX8_isPerson_0 rfl (lv_at hl 1 rfl) ?_
  refine lv_iconst (v := (0 : Int32)) hx hb dX8_isPerson_1 (by decide) ?_
  refine lv_aload_n hx hb dX8_isPerson_2 rfl (lv_at hl 0 rfl) ?_
  refine va_get (D := D) (ci := 8) (v := .ref a_law) (C := RX8) (T := TX8) (N := 19) hx hb hts iX8 hown hK hP 0 rfl rfl 6 (by decide) k_f22 (fun _ h9 => h9) rfl dX8_isPerson_3 ?_
  refine lv_iconst (v := (2 : Int32)) hx hb dX8_isPerson_6 (by decide) ?_
  refine va_iald hx hb hK hP 1 0 rfl rfl (okb_in (by decide)) dX8_isPerson_7 ?_
  refine lv_iconst (v := (1 : Int32)) hx hb dX8_isPerson_8 (by decide) ?_
  refine lv_isub hx hb dX8_isPerson_9 ?_
  obtain ⟨r1, hb2, hF⟩ := op_bind hF
  refine xSr (As := [.int i, .int (0 : Int32), .int ((m_law (2 : Int32).toNatClampNeg) - (1 : Int32))]) (rest := []) hC hP hD hS [] (c_X8_in l D cI cC cM i (0 : Int32) ((m_law (2 : Int32).toNatClampNeg) - (1 : Int32)) r1 hb2) (va_cwS 3 hts gX8_isPerson_X8_in rfl rfl rfl pd_X8_in ⟨Nat.le_of_ble_eq_true rfl, Nat.le_of_ble_eq_true rfl⟩) rfl rfl rfl hl.1 rfl (Nat.le_of_ble_eq_true rfl) dX8_isPerson_10 ⟨Nat.zero_le _, Nat.zero_le _⟩ (fun H locs hP hS => ?_)
  obtain ⟨z3, hF⟩ := op_ob hF
  cases hF
  rw [hQ]
  exact xrz hC (okz_n z3) hP hS dX8_isPerson_13

def f_X8_isWork (m_law : (Nat → Int32)) (i : Int32) : Option Int32 := (Option.bind (f_X8_in i (0 : Int32) ((m_law (3 : Int32).toNatClampNeg) - (1 : Int32))) fun r1 => (if okz r1 = true then (some r1) else none))

def rm_X8_isWork : Room := { frames := 1, cells := 0, slots := 0, locals := 22 }

theorem pd_X8_isWork : yX8_isWork.cls ≠ "java/lang/invoke/MethodHandle" ∧ yX8_isWork.cls ≠ "java/lang/invoke/VarHandle" ∧ (parseMethodDescriptor yX8_isWork.desc).map (fun d => d.parameters.length) = some 1 := by decide +kernel

set_option maxHeartbeats 4000000 in
set_option maxRecDepth 100000 in
theorem c_X8_isWork (l : Launch) (D : va_G) (cI cC cM : ClassId) (ax a_law a_text a_told a_readLaw a_readNow a_now a_tried a_undos a_seenHour a_seenAt a_parts a_partsThen a_kept : Nat) (m_letterMany : Int32) (m_readAt : Int32) (m_undoMany : Int32) (m_undoAt : Int32) (m_seenMany : Int32) (m_keptMany : Int32) (m_law : (Nat → Int32)) (i : Int32) (rr : Int32) (hF : f_X8_isWork m_law i = some rr) : CI l D cI cC cM yX8_isWork wsX8_isWork rm_X8_isWork [.ref ax, .int i] [(ax, .inr (8, [.int m_letterMany, .ref a_text, .int m_readAt, .ref a_told, .ref a_readLaw, .ref a_readNow, .ref a_law, .ref a_now, .ref a_tried, .int m_undoMany, .int m_undoAt, .ref a_undos, .int m_seenMany, .ref a_seenHour, .ref a_seenAt, .ref a_parts, .ref a_partsThen, .int m_keptMany, .ref a_kept])), (a_law, .inl (cI, 22, .inl m_law))] [(ax, .inr (8, [.int m_letterMany, .ref a_text, .int m_readAt, .ref a_told, .ref a_readLaw, .ref a_readNow, .ref a_law, .ref a_now, .ref a_tried, .int m_undoMany, .int m_undoAt, .ref a_undos, .int m_seenMany, .ref a_seenHour, .ref a_seenAt, .ref a_parts, .ref a_partsThen, .int m_keptMany, .ref a_kept])), (a_law, .inl (cI, 22, .inl m_law))] rr := by
  refine CI.of (cc := cX8_isWork) (nL := 2) (ret := (some .boolean)) (by decide) rfl (Nat.le_of_ble_eq_true rfl) ?_
  intro p e s m args below meth c A hC hP hD hS ls hl
  obtain ⟨hx, hb, hml, hown, hts, hr, hlk, hG, hA⟩ := id hC
  have hown : s.vm.findClass RX8 = some m.cls := hown
  have hK := hG.1
  have hl : lv_has ls 2 [(0, .ref ax), (1, .int i)] := hl
  have k_f22 := hts (.fieldLink RX8 22 "ParasolHoursModel" "law" "[I") (List.mem_of_getElem? (i := 1) rfl)
  have iX8 : ∀ w ∈ wsX80, w ∈ wsX8_isWork := by decide +kernel
  obtain ⟨Q, hQ⟩ : ∃ Q, Q = MQ below (QI D [(ax, .inr (8, [.int m_letterMany, .ref a_text, .int m_readAt, .ref a_told, .ref a_readLaw, .ref a_readNow, .ref a_law, .ref a_now, .ref a_tried, .int m_undoMany, .int m_undoAt, .ref a_undos, .int m_seenMany, .ref a_seenHour, .ref a_seenAt, .ref a_parts, .ref a_partsThen, .int m_keptMany, .ref a_kept])), (a_law, .inl (cI, 22, .inl m_law))] rr A) args s 0 0 A := ⟨_, rfl⟩
  rw [← hQ]
  unfold f_X8_isWork at hF
  refine lv_iload_n hx hb dX8_isWork_0 rfl (lv_at hl 1 rfl) ?_
  refine lv_iconst (v := (0 : Int32)) hx hb dX8_isWork_1 (by decide) ?_
  refine lv_aload_n hx hb dX8_isWork_2 rfl (lv_at hl 0 rfl) ?_
  refine va_get (D := D) (ci := 8) (v := .ref a_law) (C := RX8) (T := TX8) (N := 19) hx hb hts iX8 hown hK hP 0 rfl rfl 6 (by decide) k_f22 (fun _ h9 => h9) rfl dX8_isWork_3 ?_
  refine lv_iconst (v := (3 : Int32)) hx hb dX8_isWork_6 (by decide) ?_
  refine va_iald hx hb hK hP 1 0 rfl rfl (okb_in (by decide)) dX8_isWork_7 ?_
  refine lv_iconst (v := (1 : Int32)) hx hb dX8_isWork_8 (by decide) ?_
  refine lv_isub hx hb dX8_isWork_9 ?_
  obtain ⟨r1, hb2, hF⟩ := op_bind hF
  refine xSr (As := [.int i, .int (0 : Int32), .int ((m_law (3 : Int32).toNatClampNeg) - (1 : Int32))]) (rest := []) hC hP hD hS [] (c_X8_in l D cI cC cM i (0 : Int32) ((m_law (3 : Int32).toNatClampNeg) - (1 : Int32)) r1 hb2) (va_cwS 3 hts gX8_isWork_X8_in rfl rfl rfl pd_X8_in ⟨Nat.le_of_ble_eq_true rfl, Nat.le_of_ble_eq_true rfl⟩) rfl rfl rfl hl.1 rfl (Nat.le_of_ble_eq_true rfl) dX8_isWork_10 ⟨Nat.zero_le _, Nat.zero_le _⟩ (fun H locs hP hS => ?_)
  obtain ⟨z3, hF⟩ := op_ob hF
  cases hF
  rw [hQ]
  exact xrz hC (okz_n z3) hP hS dX8_isWork_13

def f_X8_under_L5 (m_law : (Nat → Int32)) (o : (Nat → Int32)) (u : Int32) (k5 : Int32 → Int32 → Option Int32) : Nat → Int32 → Int32 → Option Int32
  | 0, _, _ => none
  | nf5 + 1, v1, v2 => (if (m_law (2 : Int32).toNatClampNeg) ≤ v2 then (k5 v1 v2) else (if okb ((21 : Int32) + v2) 26 = true then (if (o ((21 : Int32) + v2).toNatClampNeg) = u then (f_X8_under_L5 m_law o u k5 nf5 (v1 ||| ((1 : Int32) <<< (v2 &&& 31))) (v2 + (1 : Int32))) else (f_X8_under_L5 m_law o u k5 nf5 (v1 ||| (0 : Int32)) (v2 + (1 : Int32)))) else none))
theorem f_X8_under_L5_0 (m_law : (Nat → Int32)) (o : (Nat → Int32)) (u : Int32) (k5 : Int32 → Int32 → Option Int32) (v1 : Int32) (v2 : Int32) : f_X8_under_L5 m_law o u k5 0 v1 v2 = none := rfl
theorem f_X8_under_L5_s (m_law : (Nat → Int32)) (o : (Nat → Int32)) (u : Int32) (k5 : Int32 → Int32 → Option Int32) (nf5 : Nat) (v1 : Int32) (v2 : Int32) : f_X8_under_L5 m_law o u k5 (nf5 + 1) v1 v2 = (if (m_law (2 : Int32).toNatClampNeg) ≤ v2 then (k5 v1 v2) else (if okb ((21 : Int32) + v2) 26 = true then (if (o ((21 : Int32) + v2).toNatClampNeg) = u then (f_X8_under_L5 m_law o u k5 nf5 (v1 ||| ((1 : Int32) <<< (v2 &&& 31))) (v2 + (1 : Int32))) else (f_X8_under_L5 m_law o u k5 nf5 (v1 ||| (0 : Int32)) (v2 + (1 : Int32)))) else none)) := rfl

def f_X8_under (m_law : (Nat → Int32)) (o : (Nat → Int32)) (u : Int32) : Option Int32 := (f_X8_under_L5 m_law o u (fun (v1 : Int32) (v2 : Int32) => (some v1)) 20000 (0 : Int32) (0 : Int32))

def rm_X8_under : Room := { frames := 0, cells := 0, slots := 0, locals := 0 }

theorem pd_X8_under : yX8_under.cls ≠ "java/lang/invoke/MethodHandle" ∧ yX8_under.cls ≠ "java/lang/invoke/VarHandle" ∧ (parseMethodDescriptor yX8_under.desc).map (fun d => d.parameters.length) = some 2 := by decide +kernel

set_option maxHeartbeats 4000000 in
set_option maxRecDepth 100000 in
theorem c_X8_under (l : Launch) (D : va_G) (cI cC cM : ClassId) (ax a_law a_of a_text a_told a_readLaw a_readNow a_now a_tried a_undos a_seenHour a_seenAt a_parts a_partsThen a_kept : Nat) (m_letterMany : Int32) (m_readAt : Int32) (m_undoMany : Int32) (m_undoAt : Int32) (m_seenMany : Int32) (m_keptMany : Int32) (m_law : (Nat → Int32)) (o : (Nat → Int32)) (u : Int32) (rr : Int32) (hF : f_X8_under m_law o u = some rr) : CI l D cI cC cM yX8_under wsX8_under rm_X8_under [.ref ax, .ref a_of, .int u] [(ax, .inr (8, [.int m_letterMany, .ref a_text, .int m_readAt, .ref a_told, .ref a_readLaw, .ref a_readNow, .ref a_law, .ref a_now, .ref a_tried, .int m_undoMany, .int m_undoAt, .ref a_undos, .int m_seenMany, .ref a_seenHour, .ref a_seenAt, .ref a_parts, .ref a_partsThen, .int m_keptMany, .ref a_kept])), (a_law, .inl (cI, 22, .inl m_law)), (a_of, .inl (cI, 26, .inl o))] [(ax, .inr (8, [.int m_letterMany, .ref a_text, .int m_readAt, .ref a_told, .ref a_readLaw, .ref a_readNow, .ref a_law, .ref a_now, .ref a_tried, .int m_undoMany, .int m_undoAt, .ref a_undos, .int m_seenMany, .ref a_seenHour, .ref a_seenAt, .ref a_parts, .ref a_partsThen, .int m_keptMany, .ref a_kept])), (a_law, .inl (cI, 22, .inl m_law)), (a_of, .inl (cI, 26, .inl o))] rr := by
  refine CI.of (cc := cX8_under) (nL := 5) (ret := (some .int)) (by decide) rfl (Nat.le_of_ble_eq_true rfl) ?_
  intro p e s m args below meth c A hC hP hD hS ls hl
  obtain ⟨hx, hb, hml, hown, hts, hr, hlk, hG, hA⟩ := id hC
  have hown : s.vm.findClass RX8 = some m.cls := hown
  have hK := hG.1
  have hl : lv_has ls 5 [(0, .ref ax), (1, .ref a_of), (2, .int u)] := hl
  have k_f22 := hts (.fieldLink RX8 22 "ParasolHoursModel" "law" "[I") (List.mem_of_getElem? (i := 1) rfl)
  have iX8 : ∀ w ∈ wsX80, w ∈ wsX8_under := by decide +kernel
  obtain ⟨Q, hQ⟩ : ∃ Q, Q = MQ below (QI D [(ax, .inr (8, [.int m_letterMany, .ref a_text, .int m_readAt, .ref a_told, .ref a_readLaw, .ref a_readNow, .ref a_law, .ref a_now, .ref a_tried, .int m_undoMany, .int m_undoAt, .ref a_undos, .int m_seenMany, .ref a_seenHour, .ref a_seenAt, .ref a_parts, .ref a_partsThen, .int m_keptMany, .ref a_kept])), (a_law, .inl (cI, 22, .inl m_law)), (a_of, .inl (cI, 26, .inl o))] rr A) args s 0 0 A := ⟨_, rfl⟩
  rw [← hQ]
  unfold f_X8_under at hF
  refine lv_iconst (v := (0 : Int32)) hx hb dX8_under_0 (by decide) ?_
  refine lv_istore_n (lv' := [(3, .int (0 : Int32)), (0, .ref ax), (1, .ref a_of), (2, .int u)]) hx hb dX8_under_1 rfl hl (by decide) rfl (fun ls hl => ?_)
  refine lv_iconst (v := (0 : Int32)) hx hb dX8_under_2 (by decide) ?_
  refine lv_istore (lv' := [(4, .int (0 : Int32)), (3, .int (0 : Int32)), (0, .ref ax), (1, .ref a_of), (2, .int u)]) hx hb dX8_under_3 hl (by decide) rfl (fun ls hl => ?_)
  have hL5 : ∀ (k5 : Int32 → Int32 → Option Int32), (∀ (v1 : Int32) (v2 : Int32) (H : Heap) (locs : List Loc), va_P D vwCl [(ax, .inr (8, [.int m_letterMany, .ref a_text, .int m_readAt, .ref a_told, .ref a_readLaw, .ref a_readNow, .ref a_law, .ref a_now, .ref a_tried, .int m_undoMany, .int m_undoAt, .ref a_undos, .int m_seenMany, .ref a_seenHour, .ref a_seenAt, .ref a_parts, .ref a_partsThen, .int m_keptMany, .ref a_kept])), (a_law, .inl (cI, 22, .inl m_law)), (a_of, .inl (cI, 26, .inl o))] H → va_D A [(ax, .inr (8, [.int m_letterMany, .ref a_text, .int m_readAt, .ref a_told, .ref a_readLaw, .ref a_readNow, .ref a_law, .ref a_now, .ref a_tried, .int m_undoMany, .int m_undoAt, .ref a_undos, .int m_seenMany, .ref a_seenHour, .ref a_seenAt, .ref a_parts, .ref a_partsThen, .int m_keptMany, .ref a_kept])), (a_law, .inl (cI, 22, .inl m_law)), (a_of, .inl (cI, 26, .inl o))] → va_S A s.heap H locs → ∀ ls : Array Slot, lv_has ls 5 [(3, .int v1)] → k5 v1 v2 = some rr → W p l e rm_X8_under s m args below meth c H locs 0 0 Q (F0 m 44 ls [])) → ∀ (nf5 : Nat) (v1 : Int32) (v2 : Int32) (H : Heap) (locs : List Loc), va_P D vwCl [(ax, .inr (8, [.int m_letterMany, .ref a_text, .int m_readAt, .ref a_told, .ref a_readLaw, .ref a_readNow, .ref a_law, .ref a_now, .ref a_tried, .int m_undoMany, .int m_undoAt, .ref a_undos, .int m_seenMany, .ref a_seenHour, .ref a_seenAt, .ref a_parts, .ref a_partsThen, .int m_keptMany, .ref a_kept])), (a_law, .inl (cI, 22, .inl m_law)), (a_of, .inl (cI, 26, .inl o))] H → va_D A [(ax, .inr (8, [.int m_letterMany, .ref a_text, .int m_readAt, .ref a_told, .ref a_readLaw, .ref a_readNow, .ref a_law, .ref a_now, .ref a_tried, .int m_undoMany, .int m_undoAt, .ref a_undos, .int m_seenMany, .ref a_seenHour, .ref a_seenAt, .ref a_parts, .ref a_partsThen, .int m_keptMany, .ref a_kept])), (a_law, .inl (cI, 22, .inl m_law)), (a_of, .inl (cI, 26, .inl o))] → va_S A s.heap H locs → ∀ ls : Array Slot, lv_has ls 5 [(4, .int v2), (3, .int v1), (0, .ref ax), (1, .ref a_of), (2, .int u)] → f_X8_under_L5 m_law o u k5 nf5 v1 v2 = some rr → W p l e rm_X8_under s m args below meth c H locs 0 0 Q (F0 m 5 ls []) := by
    intro k5 hk5 nf5
    induction nf5 with
    | zero =>
      intro v1 v2 H locs hP hD hS ls hl hF
      rw [f_X8_under_L5_0] at hF
      cases hF
    | succ nf5 ih5 =>
      intro v1 v2 H locs hP hD hS ls hl hF
      rw [f_X8_under_L5_s] at hF
      refine lv_iload hx hb dX8_under_5 (lv_at hl 0 rfl) ?_
      refine lv_aload_n hx hb dX8_under_7 rfl (lv_at hl 2 rfl) ?_
      refine va_get (D := D) (ci := 8) (v := .ref a_law) (C := RX8) (T := TX8) (N := 19) hx hb hts iX8 hown hK hP 0 rfl rfl 6 (by decide) k_f22 (fun _ h9 => h9) rfl dX8_under_8 ?_
      refine lv_iconst (v := (2 : Int32)) hx hb dX8_under_11 (by decide) ?_
      refine va_iald hx hb hK hP 1 0 rfl rfl (okb_in (by decide)) dX8_under_12 ?_
      refine lv_icmp_ge (tgt := 44) hx hb dX8_under_13 (by decide) (fun c3 => ?_) (fun c3 => ?_)
      · have hF := op_pos c3 hF
        exact hk5 v1 v2 _ _ hP hD hS _ (lv_sub hl [1] rfl) hF
      · have hF := op_neg c3 hF
        refine lv_iload_n hx hb dX8_under_16 rfl (lv_at hl 1 rfl) ?_
        refine lv_aload_n hx hb dX8_under_17 rfl (lv_at hl 3 rfl) ?_
        refine lv_bipush (v := (21 : Int32)) hx hb dX8_under_18 (by decide) ?_
        refine lv_iload hx hb dX8_under_20 (lv_at hl 0 rfl) ?_
        refine lv_iadd hx hb dX8_under_22 ?_
        obtain ⟨o4, hF⟩ := op_ob hF
        refine va_iald hx hb hK hP 2 0 rfl rfl (okb_in o4) dX8_under_23 ?_
        refine lv_iload_n hx hb dX8_under_24 rfl (lv_at hl 4 rfl) ?_
        refine lv_icmp_ne (tgt := 35) hx hb dX8_under_25 (by decide) (fun c5 => ?_) (fun c5 => ?_)
        · have hF := op_neg c5 hF
          refine lv_iconst (v := (0 : Int32)) hx hb dX8_under_35 (by decide) ?_
          refine lv_ior hx hb dX8_under_36 ?_
          refine lv_istore_n (lv' := [(3, .int (v1 ||| (0 : Int32))), (4, .int v2), (0, .ref ax), (1, .ref a_of), (2, .int u)]) hx hb dX8_under_37 rfl hl (by decide) rfl (fun ls hl => ?_)
          refine lv_iinc (v := (v2 + (1 : Int32))) (lv' := [(4, .int (v2 + (1 : Int32))), (3, .int (v1 ||| (0 : Int32))), (0, .ref ax), (1, .ref a_of), (2, .int u)]) hx hb dX8_under_38 hl (k := 1) rfl (by first | rfl | decide) (by decide) rfl (fun ls hl => ?_)
          refine lv_goto (tgt := 5) hx hb dX8_under_41 (by decide) ?_
          exact ih5 (v1 ||| (0 : Int32)) (v2 + (1 : Int32)) _ _ hP hD hS _ (lv_sub hl [0, 1, 2, 3, 4] rfl) hF
        · have hF := op_pos c5 hF
          refine lv_iconst (v := (1 : Int32)) hx hb dX8_under_28 (by decide) ?_
          refine lv_iload hx hb dX8_under_29 (lv_at hl 0 rfl) ?_
          refine lv_ishl hx hb dX8_under_31 ?_
          refine lv_goto (tgt := 36) hx hb dX8_under_32 (by decide) ?_
          refine lv_ior hx hb dX8_under_36 ?_
          refine lv_istore_n (lv' := [(3, .int (v1 ||| ((1 : Int32) <<< (v2 &&& 31)))), (4, .int v2), (0, .ref ax), (1, .ref a_of), (2, .int u)]) hx hb dX8_under_37 rfl hl (by decide) rfl (fun ls hl => ?_)
          refine lv_iinc (v := (v2 + (1 : Int32))) (lv' := [(4, .int (v2 + (1 : Int32))), (3, .int (v1 ||| ((1 : Int32) <<< (v2 &&& 31)))), (0, .ref ax), (1, .ref a_of), (2, .int u)]) hx hb dX8_under_38 hl (k := 1) rfl (by first | rfl | decide) (by decide) rfl (fun ls hl => ?_)
          refine lv_goto (tgt := 5) hx hb dX8_under_41 (by decide) ?_
          exact ih5 (v1 ||| ((1 : Int32) <<< (v2 &&& 31))) (v2 + (1 : Int32)) _ _ hP hD hS _ (lv_sub hl [0, 1, 2, 3, 4] rfl) hF
  refine hL5 _ (fun v1 v2 H locs hP hD hS ls hl hF => ?_) 20000 (0 : Int32) (0 : Int32) _ _ hP hD hS _ (lv_sub hl [0, 1, 2, 3, 4] rfl) hF
  refine lv_iload_n hx hb dX8_under_44 rfl (lv_at hl 0 rfl) ?_
  cases hF
  rw [hQ]
  exact xri hC hP hS dX8_under_45

def f_X8_squareOf_L5 (m_law : (Nat → Int32)) (o : (Nat → Int32)) (u : Int32) (k5 : Int32 → Int32 → Option Int32) : Nat → Int32 → Int32 → Option Int32
  | 0, _, _ => none
  | nf5 + 1, v1, v2 => (if (m_law (2 : Int32).toNatClampNeg) ≤ v2 then (k5 v1 v2) else (if okb ((21 : Int32) + v2) 26 = true then (if (o ((21 : Int32) + v2).toNatClampNeg) = u then (if okb ((16 : Int32) + v2) 26 = true then (f_X8_squareOf_L5 m_law o u k5 nf5 (o ((16 : Int32) + v2).toNatClampNeg) (v2 + (1 : Int32))) else none) else (f_X8_squareOf_L5 m_law o u k5 nf5 v1 (v2 + (1 : Int32)))) else none))
theorem f_X8_squareOf_L5_0 (m_law : (Nat → Int32)) (o : (Nat → Int32)) (u : Int32) (k5 : Int32 → Int32 → Option Int32) (v1 : Int32) (v2 : Int32) : f_X8_squareOf_L5 m_law o u k5 0 v1 v2 = none := rfl
theorem f_X8_squareOf_L5_s (m_law : (Nat → Int32)) (o : (Nat → Int32)) (u : Int32) (k5 : Int32 → Int32 → Option Int32) (nf5 : Nat) (v1 : Int32) (v2 : Int32) : f_X8_squareOf_L5 m_law o u k5 (nf5 + 1) v1 v2 = (if (m_law (2 : Int32).toNatClampNeg) ≤ v2 then (k5 v1 v2) else (if okb ((21 : Int32) + v2) 26 = true then (if (o ((21 : Int32) + v2).toNatClampNeg) = u then (if okb ((16 : Int32) + v2) 26 = true then (f_X8_squareOf_L5 m_law o u k5 nf5 (o ((16 : Int32) + v2).toNatClampNeg) (v2 + (1 : Int32))) else none) else (f_X8_squareOf_L5 m_law o u k5 nf5 v1 (v2 + (1 : Int32)))) else none)) := rfl

def f_X8_squareOf (m_law : (Nat → Int32)) (o : (Nat → Int32)) (u : Int32) : Option Int32 := (f_X8_squareOf_L5 m_law o u (fun (v1 : Int32) (v2 : Int32) => (some v1)) 20000 (0 : Int32) (0 : Int32))

def rm_X8_squareOf : Room := { frames := 0, cells := 0, slots := 0, locals := 0 }

theorem pd_X8_squareOf : yX8_squareOf.cls ≠ "java/lang/invoke/MethodHandle" ∧ yX8_squareOf.cls ≠ "java/lang/invoke/VarHandle" ∧ (parseMethodDescriptor yX8_squareOf.desc).map (fun d => d.parameters.length) = some 2 := by decide +kernel

set_option maxHeartbeats 4000000 in
set_option maxRecDepth 100000 in
theorem c_X8_squareOf (l : Launch) (D : va_G) (cI cC cM : ClassId) (ax a_law a_of a_text a_told a_readLaw a_readNow a_now a_tried a_undos a_seenHour a_seenAt a_parts a_partsThen a_kept : Nat) (m_letterMany : Int32) (m_readAt : Int32) (m_undoMany : Int32) (m_undoAt : Int32) (m_seenMany : Int32) (m_keptMany : Int32) (m_law : (Nat → Int32)) (o : (Nat → Int32)) (u : Int32) (rr : Int32) (hF : f_X8_squareOf m_law o u = some rr) : CI l D cI cC cM yX8_squareOf wsX8_squareOf rm_X8_squareOf [.ref ax, .ref a_of, .int u] [(ax, .inr (8, [.int m_letterMany, .ref a_text, .int m_readAt, .ref a_told, .ref a_readLaw, .ref a_readNow, .ref a_law, .ref a_now, .ref a_tried, .int m_undoMany, .int m_undoAt, .ref a_undos, .int m_seenMany, .ref a_seenHour, .ref a_seenAt, .ref a_parts, .ref a_partsThen, .int m_keptMany, .ref a_kept])), (a_law, .inl (cI, 22, .inl m_law)), (a_of, .inl (cI, 26, .inl o))] [(ax, .inr (8, [.int m_letterMany, .ref a_text, .int m_readAt, .ref a_told, .ref a_readLaw, .ref a_readNow, .ref a_law, .ref a_now, .ref a_tried, .int m_undoMany, .int m_undoAt, .ref a_undos, .int m_seenMany, .ref a_seenHour, .ref a_seenAt, .ref a_parts, .ref a_partsThen, .int m_keptMany, .ref a_kept])), (a_law, .inl (cI, 22, .inl m_law)), (a_of, .inl (cI, 26, .inl o))] rr := by
  refine CI.of (cc := cX8_squareOf) (nL := 5) (ret := (some .int)) (by decide) rfl (Nat.le_of_ble_eq_true rfl) ?_
  intro p e s m args below meth c A hC hP hD hS ls hl
  obtain ⟨hx, hb, hml, hown, hts, hr, hlk, hG, hA⟩ := id hC
  have hown : s.vm.findClass RX8 = some m.cls := hown
  have hK := hG.1
  have hl : lv_has ls 5 [(0, .ref ax), (1, .ref a_of), (2, .int u)] := hl
  have k_f22 := hts (.fieldLink RX8 22 "ParasolHoursModel" "law" "[I") (List.mem_of_getElem? (i := 1) rfl)
  have iX8 : ∀ w ∈ wsX80, w ∈ wsX8_squareOf := by decide +kernel
  obtain ⟨Q, hQ⟩ : ∃ Q, Q = MQ below (QI D [(ax, .inr (8, [.int m_letterMany, .ref a_text, .int m_readAt, .ref a_told, .ref a_readLaw, .ref a_readNow, .ref a_law, .ref a_now, .ref a_tried, .int m_undoMany, .int m_undoAt, .ref a_undos, .int m_seenMany, .ref a_seenHour, .ref a_seenAt, .ref a_parts, .ref a_partsThen, .int m_keptMany, .ref a_kept])), (a_law, .inl (cI, 22, .inl m_law)), (a_of, .inl (cI, 26, .inl o))] rr A) args s 0 0 A := ⟨_, rfl⟩
  rw [← hQ]
  unfold f_X8_squareOf at hF
  refine lv_iconst (v := (0 : Int32)) hx hb dX8_squareOf_0 (by decide) ?_
  refine lv_istore_n (lv' := [(3, .int (0 : Int32)), (0, .ref ax), (1, .ref a_of), (2, .int u)]) hx hb dX8_squareOf_1 rfl hl (by decide) rfl (fun ls hl => ?_)
  refine lv_iconst (v := (0 : Int32)) hx hb dX8_squareOf_2 (by decide) ?_
  refine lv_istore (lv' := [(4, .int (0 : Int32)), (3, .int (0 : Int32)), (0, .ref ax), (1, .ref a_of), (2, .int u)]) hx hb dX8_squareOf_3 hl (by decide) rfl (fun ls hl => ?_)
  have hL5 : ∀ (k5 : Int32 → Int32 → Option Int32), (∀ (v1 : Int32) (v2 : Int32) (H : Heap) (locs : List Loc), va_P D vwCl [(ax, .inr (8, [.int m_letterMany, .ref a_text, .int m_readAt, .ref a_told, .ref a_readLaw, .ref a_readNow, .ref a_law, .ref a_now, .ref a_tried, .int m_undoMany, .int m_undoAt, .ref a_undos, .int m_seenMany, .ref a_seenHour, .ref a_seenAt, .ref a_parts, .ref a_partsThen, .int m_keptMany, .ref a_kept])), (a_law, .inl (cI, 22, .inl m_law)), (a_of, .inl (cI, 26, .inl o))] H → va_D A [(ax, .inr (8, [.int m_letterMany, .ref a_text, .int m_readAt, .ref a_told, .ref a_readLaw, .ref a_readNow, .ref a_law, .ref a_now, .ref a_tried, .int m_undoMany, .int m_undoAt, .ref a_undos, .int m_seenMany, .ref a_seenHour, .ref a_seenAt, .ref a_parts, .ref a_partsThen, .int m_keptMany, .ref a_kept])), (a_law, .inl (cI, 22, .inl m_law)), (a_of, .inl (cI, 26, .inl o))] → va_S A s.heap H locs → ∀ ls : Array Slot, lv_has ls 5 [(3, .int v1)] → k5 v1 v2 = some rr → W p l e rm_X8_squareOf s m args below meth c H locs 0 0 Q (F0 m 45 ls [])) → ∀ (nf5 : Nat) (v1 : Int32) (v2 : Int32) (H : Heap) (locs : List Loc), va_P D vwCl [(ax, .inr (8, [.int m_letterMany, .ref a_text, .int m_readAt, .ref a_told, .ref a_readLaw, .ref a_readNow, .ref a_law, .ref a_now, .ref a_tried, .int m_undoMany, .int m_undoAt, .ref a_undos, .int m_seenMany, .ref a_seenHour, .ref a_seenAt, .ref a_parts, .ref a_partsThen, .int m_keptMany, .ref a_kept])), (a_law, .inl (cI, 22, .inl m_law)), (a_of, .inl (cI, 26, .inl o))] H → va_D A [(ax, .inr (8, [.int m_letterMany, .ref a_text, .int m_readAt, .ref a_told, .ref a_readLaw, .ref a_readNow, .ref a_law, .ref a_now, .ref a_tried, .int m_undoMany, .int m_undoAt, .ref a_undos, .int m_seenMany, .ref a_seenHour, .ref a_seenAt, .ref a_parts, .ref a_partsThen, .int m_keptMany, .ref a_kept])), (a_law, .inl (cI, 22, .inl m_law)), (a_of, .inl (cI, 26, .inl o))] → va_S A s.heap H locs → ∀ ls : Array Slot, lv_has ls 5 [(4, .int v2), (3, .int v1), (0, .ref ax), (1, .ref a_of), (2, .int u)] → f_X8_squareOf_L5 m_law o u k5 nf5 v1 v2 = some rr → W p l e rm_X8_squareOf s m args below meth c H locs 0 0 Q (F0 m 5 ls []) := by
    intro k5 hk5 nf5
    induction nf5 with
    | zero =>
      intro v1 v2 H locs hP hD hS ls hl hF
      rw [f_X8_squareOf_L5_0] at hF
      cases hF
    | succ nf5 ih5 =>
      intro v1 v2 H locs hP hD hS ls hl hF
      rw [f_X8_squareOf_L5_s] at hF
      refine lv_iload hx hb dX8_squareOf_5 (lv_at hl 0 rfl) ?_
      refine lv_aload_n hx hb dX8_squareOf_7 rfl (lv_at hl 2 rfl) ?_
      refine va_get (D := D) (ci := 8) (v := .ref a_law) (C := RX8) (T := TX8) (N := 19) hx hb hts iX8 hown hK hP 0 rfl rfl 6 (by decide) k_f22 (fun _ h9 => h9) rfl dX8_squareOf_8 ?_
      refine lv_iconst (v := (2 : Int32)) hx hb dX8_squareOf_11 (by decide) ?_
      refine va_iald hx hb hK hP 1 0 rfl rfl (okb_in (by decide)) dX8_squareOf_12 ?_
      refine lv_icmp_ge (tgt := 45) hx hb dX8_squareOf_13 (by decide) (fun c3 => ?_) (fun c3 => ?_)
      · have hF := op_pos c3 hF
        exact hk5 v1 v2 _ _ hP hD hS _ (lv_sub hl [1] rfl) hF
      · have hF := op_neg c3 hF
        refine lv_aload_n hx hb dX8_squareOf_16 rfl (lv_at hl 3 rfl) ?_
        refine lv_bipush (v := (21 : Int32)) hx hb dX8_squareOf_17 (by decide) ?_
        refine lv_iload hx hb dX8_squareOf_19 (lv_at hl 0 rfl) ?_
        refine lv_iadd hx hb dX8_squareOf_21 ?_
        obtain ⟨o4, hF⟩ := op_ob hF
        refine va_iald hx hb hK hP 2 0 rfl rfl (okb_in o4) dX8_squareOf_22 ?_
        refine lv_iload_n hx hb dX8_squareOf_23 rfl (lv_at hl 4 rfl) ?_
        refine lv_icmp_ne (tgt := 37) hx hb dX8_squareOf_24 (by decide) (fun c5 => ?_) (fun c5 => ?_)
        · have hF := op_neg c5 hF
          refine lv_iload_n hx hb dX8_squareOf_37 rfl (lv_at hl 1 rfl) ?_
          refine lv_istore_n (lv' := [(3, .int v1), (4, .int v2), (0, .ref ax), (1, .ref a_of), (2, .int u)]) hx hb dX8_squareOf_38 rfl hl (by decide) rfl (fun ls hl => ?_)
          refine lv_iinc (v := (v2 + (1 : Int32))) (lv' := [(4, .int (v2 + (1 : Int32))), (3, .int v1), (0, .ref ax), (1, .ref a_of), (2, .int u)]) hx hb dX8_squareOf_39 hl (k := 1) rfl (by first | rfl | decide) (by decide) rfl (fun ls hl => ?_)
          refine lv_goto (tgt := 5) hx hb dX8_squareOf_42 (by decide) ?_
          exact ih5 v1 (v2 + (1 : Int32)) _ _ hP hD hS _ (lv_sub hl [0, 1, 2, 3, 4] rfl) hF
        · have hF := op_pos c5 hF
          refine lv_aload_n hx hb dX8_squareOf_27 rfl (lv_at hl 3 rfl) ?_
          refine lv_bipush (v := (16 : Int32)) hx hb dX8_squareOf_28 (by decide) ?_
          refine lv_iload hx hb dX8_squareOf_30 (lv_at hl 0 rfl) ?_
          refine lv_iadd hx hb dX8_squareOf_32 ?_
          obtain ⟨o6, hF⟩ := op_ob hF
          refine va_iald hx hb hK hP 2 0 rfl rfl (okb_in o6) dX8_squareOf_33 ?_
          refine lv_goto (tgt := 38) hx hb dX8_squareOf_34 (by decide) ?_
          refine lv_istore_n (lv' := [(3, .int (o ((16 : Int32) + v2).toNatClampNeg)), (4, .int v2), (0, .ref ax), (1, .ref a_of), (2, .int u)]) hx hb dX8_squareOf_38 rfl hl (by decide) rfl (fun ls hl => ?_)
          refine lv_iinc (v := (v2 + (1 : Int32))) (lv' := [(4, .int (v2 + (1 : Int32))), (3, .int (o ((16 : Int32) + v2).toNatClampNeg)), (0, .ref ax), (1, .ref a_of), (2, .int u)]) hx hb dX8_squareOf_39 hl (k := 1) rfl (by first | rfl | decide) (by decide) rfl (fun ls hl => ?_)
          refine lv_goto (tgt := 5) hx hb dX8_squareOf_42 (by decide) ?_
          exact ih5 (o ((16 : Int32) + v2).toNatClampNeg) (v2 + (1 : Int32)) _ _ hP hD hS _ (lv_sub hl [0, 1, 2, 3, 4] rfl) hF
  refine hL5 _ (fun v1 v2 H locs hP hD hS ls hl hF => ?_) 20000 (0 : Int32) (0 : Int32) _ _ hP hD hS _ (lv_sub hl [0, 1, 2, 3, 4] rfl) hF
  refine lv_iload_n hx hb dX8_squareOf_45 rfl (lv_at hl 0 rfl) ?_
  cases hF
  rw [hQ]
  exact xri hC hP hS dX8_squareOf_46

def f_X8_goesOn (m_law : (Nat → Int32)) (u : Int32) (i : Int32) : Option Int32 := (if okb ((4 : Int32) + u) 22 = true then (if (m_law ((4 : Int32) + u).toNatClampNeg) = (2 : Int32) then (some ((1 : Int32) - (jrem i (2 : Int32)))) else (if (m_law ((4 : Int32) + u).toNatClampNeg) = (3 : Int32) then (some (2 : Int32)) else (some (1 : Int32)))) else none)

def rm_X8_goesOn : Room := { frames := 0, cells := 0, slots := 0, locals := 0 }

theorem pd_X8_goesOn : yX8_goesOn.cls ≠ "java/lang/invoke/MethodHandle" ∧ yX8_goesOn.cls ≠ "java/lang/invoke/VarHandle" ∧ (parseMethodDescriptor yX8_goesOn.desc).map (fun d => d.parameters.length) = some 2 := by decide +kernel

set_option maxHeartbeats 4000000 in
set_option maxRecDepth 100000 in
theorem c_X8_goesOn (l : Launch) (D : va_G) (cI cC cM : ClassId) (ax a_law a_text a_told a_readLaw a_readNow a_now a_tried a_undos a_seenHour a_seenAt a_parts a_partsThen a_kept : Nat) (m_letterMany : Int32) (m_readAt : Int32) (m_undoMany : Int32) (m_undoAt : Int32) (m_seenMany : Int32) (m_keptMany : Int32) (m_law : (Nat → Int32)) (u : Int32) (i : Int32) (rr : Int32) (hF : f_X8_goesOn m_law u i = some rr) : CI l D cI cC cM yX8_goesOn wsX8_goesOn rm_X8_goesOn [.ref ax, .int u, .int i] [(ax, .inr (8, [.int m_letterMany, .ref a_text, .int m_readAt, .ref a_told, .ref a_readLaw, .ref a_readNow, .ref a_law, .ref a_now, .ref a_tried, .int m_undoMany, .int m_undoAt, .ref a_undos, .int m_seenMany, .ref a_seenHour, .ref a_seenAt, .ref a_parts, .ref a_partsThen, .int m_keptMany, .ref a_kept])), (a_law, .inl (cI, 22, .inl m_law))] [(ax, .inr (8, [.int m_letterMany, .ref a_text, .int m_readAt, .ref a_told, .ref a_readLaw, .ref a_readNow, .ref a_law, .ref a_now, .ref a_tried, .int m_undoMany, .int m_undoAt, .ref a_undos, .int m_seenMany, .ref a_seenHour, .ref a_seenAt, .ref a_parts, .ref a_partsThen, .int m_keptMany, .ref a_kept])), (a_law, .inl (cI, 22, .inl m_law))] rr := by
  refine CI.of (cc := cX8_goesOn) (nL := 4) (ret := (some .int)) (by decide) rfl (Nat.le_of_ble_eq_true rfl) ?_
  intro p e s m args below meth c A hC hP hD hS ls hl
  obtain ⟨hx, hb, hml, hown, hts, hr, hlk, hG, hA⟩ := id hC
  have hown : s.vm.findClass RX8 = some m.cls := hown
  have hK := hG.1
  have hl : lv_has ls 4 [(0, .ref ax), (1, .int u), (2, .int i)] := hl
  have k_f22 := hts (.fieldLink RX8 22 "ParasolHoursModel" "law" "[I") (List.mem_of_getElem? (i := 1) rfl)
  have iX8 : ∀ w ∈ wsX80, w ∈ wsX8_goesOn := by decide +kernel
  obtain ⟨Q, hQ⟩ : ∃ Q, Q = MQ below (QI D [(ax, .inr (8, [.int m_letterMany, .ref a_text, .int m_readAt, .ref a_told, .ref a_readLaw, .ref a_readNow, .ref a_law, .ref a_now, .ref a_tried, .int m_undoMany, .int m_undoAt, .ref a_undos, .int m_seenMany, .ref a_seenHour, .ref a_seenAt, .ref a_parts, .ref a_partsThen, .int m_keptMany, .ref a_kept])), (a_law, .inl (cI, 22, .inl m_law))] rr A) args s 0 0 A := ⟨_, rfl⟩
  rw [← hQ]
  unfold f_X8_goesOn at hF
  refine lv_aload_n hx hb dX8_goesOn_0 rfl (lv_at hl 0 rfl) ?_
  refine va_get (D := D) (ci := 8) (v := .ref a_law) (C := RX8) (T := TX8) (N := 19) hx hb hts iX8 hown hK hP 0 rfl rfl 6 (by decide) k_f22 (fun _ h9 => h9) rfl dX8_goesOn_1 ?_
  refine lv_iconst (v := (4 : Int32)) hx hb dX8_goesOn_4 (by decide) ?_
  refine lv_iload_n hx hb dX8_goesOn_5 rfl (lv_at hl 1 rfl) ?_
  refine lv_iadd hx hb dX8_goesOn_6 ?_
  obtain ⟨o1, hF⟩ := op_ob hF
  refine va_iald hx hb hK hP 1 0 rfl rfl (okb_in o1) dX8_goesOn_7 ?_
  refine lv_istore_n (lv' := [(3, .int (m_law ((4 : Int32) + u).toNatClampNeg)), (0, .ref ax), (1, .int u), (2, .int i)]) hx hb dX8_goesOn_8 rfl hl (by decide) rfl (fun ls hl => ?_)
  refine lv_iload_n hx hb dX8_goesOn_9 rfl (lv_at hl 0 rfl) ?_
  refine lv_iconst (v := (2 : Int32)) hx hb dX8_goesOn_10 (by decide) ?_
  refine lv_icmp_ne (tgt := 22) hx hb dX8_goesOn_11 (by decide) (fun c2 => ?_) (fun c2 => ?_)
  · have hF := op_neg c2 hF
    refine lv_iload_n hx hb dX8_goesOn_22 rfl (lv_at hl 0 rfl) ?_
    refine lv_iconst (v := (3 : Int32)) hx hb dX8_goesOn_23 (by decide) ?_
    refine lv_icmp_ne (tgt := 31) hx hb dX8_goesOn_24 (by decide) (fun c3 => ?_) (fun c3 => ?_)
    · have hF := op_neg c3 hF
      refine lv_iconst (v := (1 : Int32)) hx hb dX8_goesOn_31 (by decide) ?_
      cases hF
      rw [hQ]
      exact xri hC hP hS dX8_goesOn_32
    · have hF := op_pos c3 hF
      refine lv_iconst (v := (2 : Int32)) hx hb dX8_goesOn_27 (by decide) ?_
      refine lv_goto (tgt := 32) hx hb dX8_goesOn_28 (by decide) ?_
      cases hF
      rw [hQ]
      exact xri hC hP hS dX8_goesOn_32
  · have hF := op_pos c2 hF
    refine lv_iconst (v := (1 : Int32)) hx hb dX8_goesOn_14 (by decide) ?_
    refine lv_iload_n hx hb dX8_goesOn_15 rfl (lv_at hl 3 rfl) ?_
    refine lv_iconst (v := (2 : Int32)) hx hb dX8_goesOn_16 (by decide) ?_
    refine lv_irem hx hb dX8_goesOn_17 (by decide) ?_
    refine lv_isub hx hb dX8_goesOn_18 ?_
    refine lv_goto (tgt := 32) hx hb dX8_goesOn_19 (by decide) ?_
    cases hF
    rw [hQ]
    exact xri hC hP hS dX8_goesOn_32

def f_X8_wears (m_law : (Nat → Int32)) (u : Int32) (i : Int32) : Option Int32 := (if okb ((4 : Int32) + u) 22 = true then (if (m_law ((4 : Int32) + u).toNatClampNeg) = (1 : Int32) then (some ((1 : Int32) - (jrem i (2 : Int32)))) else (some (1 : Int32))) else none)

def rm_X8_wears : Room := { frames := 0, cells := 0, slots := 0, locals := 0 }

theorem pd_X8_wears : yX8_wears.cls ≠ "java/lang/invoke/MethodHandle" ∧ yX8_wears.cls ≠ "java/lang/invoke/VarHandle" ∧ (parseMethodDescriptor yX8_wears.desc).map (fun d => d.parameters.length) = some 2 := by decide +kernel

set_option maxHeartbeats 4000000 in
set_option maxRecDepth 100000 in
theorem c_X8_wears (l : Launch) (D : va_G) (cI cC cM : ClassId) (ax a_law a_text a_told a_readLaw a_readNow a_now a_tried a_undos a_seenHour a_seenAt a_parts a_partsThen a_kept : Nat) (m_letterMany : Int32) (m_readAt : Int32) (m_undoMany : Int32) (m_undoAt : Int32) (m_seenMany : Int32) (m_keptMany : Int32) (m_law : (Nat → Int32)) (u : Int32) (i : Int32) (rr : Int32) (hF : f_X8_wears m_law u i = some rr) : CI l D cI cC cM yX8_wears wsX8_wears rm_X8_wears [.ref ax, .int u, .int i] [(ax, .inr (8, [.int m_letterMany, .ref a_text, .int m_readAt, .ref a_told, .ref a_readLaw, .ref a_readNow, .ref a_law, .ref a_now, .ref a_tried, .int m_undoMany, .int m_undoAt, .ref a_undos, .int m_seenMany, .ref a_seenHour, .ref a_seenAt, .ref a_parts, .ref a_partsThen, .int m_keptMany, .ref a_kept])), (a_law, .inl (cI, 22, .inl m_law))] [(ax, .inr (8, [.int m_letterMany, .ref a_text, .int m_readAt, .ref a_told, .ref a_readLaw, .ref a_readNow, .ref a_law, .ref a_now, .ref a_tried, .int m_undoMany, .int m_undoAt, .ref a_undos, .int m_seenMany, .ref a_seenHour, .ref a_seenAt, .ref a_parts, .ref a_partsThen, .int m_keptMany, .ref a_kept])), (a_law, .inl (cI, 22, .inl m_law))] rr := by
  refine CI.of (cc := cX8_wears) (nL := 3) (ret := (some .int)) (by decide) rfl (Nat.le_of_ble_eq_true rfl) ?_
  intro p e s m args below meth c A hC hP hD hS ls hl
  obtain ⟨hx, hb, hml, hown, hts, hr, hlk, hG, hA⟩ := id hC
  have hown : s.vm.findClass RX8 = some m.cls := hown
  have hK := hG.1
  have hl : lv_has ls 3 [(0, .ref ax), (1, .int u), (2, .int i)] := hl
  have k_f22 := hts (.fieldLink RX8 22 "ParasolHoursModel" "law" "[I") (List.mem_of_getElem? (i := 1) rfl)
  have iX8 : ∀ w ∈ wsX80, w ∈ wsX8_wears := by decide +kernel
  obtain ⟨Q, hQ⟩ : ∃ Q, Q = MQ below (QI D [(ax, .inr (8, [.int m_letterMany, .ref a_text, .int m_readAt, .ref a_told, .ref a_readLaw, .ref a_readNow, .ref a_law, .ref a_now, .ref a_tried, .int m_undoMany, .int m_undoAt, .ref a_undos, .int m_seenMany, .ref a_seenHour, .ref a_seenAt, .ref a_parts, .ref a_partsThen, .int m_keptMany, .ref a_kept])), (a_law, .inl (cI, 22, .inl m_law))] rr A) args s 0 0 A := ⟨_, rfl⟩
  rw [← hQ]
  unfold f_X8_wears at hF
  refine lv_aload_n hx hb dX8_wears_0 rfl (lv_at hl 0 rfl) ?_
  refine va_get (D := D) (ci := 8) (v := .ref a_law) (C := RX8) (T := TX8) (N := 19) hx hb hts iX8 hown hK hP 0 rfl rfl 6 (by decide) k_f22 (fun _ h9 => h9) rfl dX8_wears_1 ?_
  refine lv_iconst (v := (4 : Int32)) hx hb dX8_wears_4 (by decide) ?_
  refine lv_iload_n hx hb dX8_wears_5 rfl (lv_at hl 1 rfl) ?_
  refine lv_iadd hx hb dX8_wears_6 ?_
  obtain ⟨o1, hF⟩ := op_ob hF
  refine va_iald hx hb hK hP 1 0 rfl rfl (okb_in o1) dX8_wears_7 ?_
  refine lv_iconst (v := (1 : Int32)) hx hb dX8_wears_8 (by decide) ?_
  refine lv_icmp_ne (tgt := 20) hx hb dX8_wears_9 (by decide) (fun c2 => ?_) (fun c2 => ?_)
  · have hF := op_neg c2 hF
    refine lv_iconst (v := (1 : Int32)) hx hb dX8_wears_20 (by decide) ?_
    cases hF
    rw [hQ]
    exact xri hC hP hS dX8_wears_21
  · have hF := op_pos c2 hF
    refine lv_iconst (v := (1 : Int32)) hx hb dX8_wears_12 (by decide) ?_
    refine lv_iload_n hx hb dX8_wears_13 rfl (lv_at hl 2 rfl) ?_
    refine lv_iconst (v := (2 : Int32)) hx hb dX8_wears_14 (by decide) ?_
    refine lv_irem hx hb dX8_wears_15 (by decide) ?_
    refine lv_isub hx hb dX8_wears_16 ?_
    refine lv_goto (tgt := 21) hx hb dX8_wears_17 (by decide) ?_
    cases hF
    rw [hQ]
    exact xri hC hP hS dX8_wears_21

def f_X8_parasol (m_law : (Nat → Int32)) (m_now : (Nat → Int32)) (u : Int32) (i : Int32) : Option Int32 := (Option.bind (f_X8_isParasol m_law u) fun r1 => (if r1 = 0 then (some (-1 : Int32)) else (if i = (0 : Int32) then (if okb ((4 : Int32) + u) 22 = true then (some (m_law ((4 : Int32) + u).toNatClampNeg)) else none) else (if i = (1 : Int32) then (if okb ((4 : Int32) + u) 26 = true then (some (m_now ((4 : Int32) + u).toNatClampNeg)) else none) else (if i = (2 : Int32) then (if okb ((10 : Int32) + u) 26 = true then (some (m_now ((10 : Int32) + u).toNatClampNeg)) else none) else (if i = (3 : Int32) then (Option.bind (f_X8_under m_law m_now u) fun r11 => (some r11)) else (if i = (4 : Int32) then (Option.bind (f_X8_squareOf m_law m_now u) fun r14 => (some r14)) else (some (-1 : Int32)))))))))

def rm_X8_parasol : Room := { frames := 2, cells := 0, slots := 0, locals := 43 }

theorem pd_X8_parasol : yX8_parasol.cls ≠ "java/lang/invoke/MethodHandle" ∧ yX8_parasol.cls ≠ "java/lang/invoke/VarHandle" ∧ (parseMethodDescriptor yX8_parasol.desc).map (fun d => d.parameters.length) = some 2 := by decide +kernel

set_option maxHeartbeats 4000000 in
set_option maxRecDepth 100000 in
theorem c_X8_parasol (l : Launch) (D : va_G) (cI cC cM : ClassId) (ax a_law a_now a_text a_told a_readLaw a_readNow a_tried a_undos a_seenHour a_seenAt a_parts a_partsThen a_kept : Nat) (m_letterMany : Int32) (m_readAt : Int32) (m_undoMany : Int32) (m_undoAt : Int32) (m_seenMany : Int32) (m_keptMany : Int32) (m_law : (Nat → Int32)) (m_now : (Nat → Int32)) (u : Int32) (i : Int32) (rr : Int32) (hF : f_X8_parasol m_law m_now u i = some rr) : CI l D cI cC cM yX8_parasol wsX8_parasol rm_X8_parasol [.ref ax, .int u, .int i] [(ax, .inr (8, [.int m_letterMany, .ref a_text, .int m_readAt, .ref a_told, .ref a_readLaw, .ref a_readNow, .ref a_law, .ref a_now, .ref a_tried, .int m_undoMany, .int m_undoAt, .ref a_undos, .int m_seenMany, .ref a_seenHour, .ref a_seenAt, .ref a_parts, .ref a_partsThen, .int m_keptMany, .ref a_kept])), (a_law, .inl (cI, 22, .inl m_law)), (a_now, .inl (cI, 26, .inl m_now))] [(ax, .inr (8, [.int m_letterMany, .ref a_text, .int m_readAt, .ref a_told, .ref a_readLaw, .ref a_readNow, .ref a_law, .ref a_now, .ref a_tried, .int m_undoMany, .int m_undoAt, .ref a_undos, .int m_seenMany, .ref a_seenHour, .ref a_seenAt, .ref a_parts, .ref a_partsThen, .int m_keptMany, .ref a_kept])), (a_law, .inl (cI, 22, .inl m_law)), (a_now, .inl (cI, 26, .inl m_now))] rr := by
  refine CI.of (cc := cX8_parasol) (nL := 3) (ret := (some .int)) (by decide) rfl (Nat.le_of_ble_eq_true rfl) ?_
  intro p e s m args below meth c A hC hP hD hS ls hl
  obtain ⟨hx, hb, hml, hown, hts, hr, hlk, hG, hA⟩ := id hC
  have hown : s.vm.findClass RX8 = some m.cls := hown
  have hK := hG.1
  have hl : lv_has ls 3 [(0, .ref ax), (1, .int u), (2, .int i)] := hl
  have k_f22 := hts (.fieldLink RX8 22 "ParasolHoursModel" "law" "[I") (List.mem_of_getElem? (i := 1) rfl)
  have k_f25 := hts (.fieldLink RX8 25 "ParasolHoursModel" "now" "[I") (List.mem_of_getElem? (i := 2) rfl)
  have iX8 : ∀ w ∈ wsX80, w ∈ wsX8_parasol := by decide +kernel
  obtain ⟨Q, hQ⟩ : ∃ Q, Q = MQ below (QI D [(ax, .inr (8, [.int m_letterMany, .ref a_text, .int m_readAt, .ref a_told, .ref a_readLaw, .ref a_readNow, .ref a_law, .ref a_now, .ref a_tried, .int m_undoMany, .int m_undoAt, .ref a_undos, .int m_seenMany, .ref a_seenHour, .ref a_seenAt, .ref a_parts, .ref a_partsThen, .int m_keptMany, .ref a_kept])), (a_law, .inl (cI, 22, .inl m_law)), (a_now, .inl (cI, 26, .inl m_now))] rr A) args s 0 0 A := ⟨_, rfl⟩
  rw [← hQ]
  unfold f_X8_parasol at hF
  refine lv_aload_n hx hb dX8_parasol_0 rfl (lv_at hl 0 rfl) ?_
  refine lv_iload_n hx hb dX8_parasol_1 rfl (lv_at hl 1 rfl) ?_
  obtain ⟨r1, hb2, hF⟩ := op_bind hF
  refine xVr (As := [.int u]) (rest := []) hC hP hD hS [0, 1] (c_X8_isParasol l D cI cC cM ax a_law a_text a_told a_readLaw a_readNow a_now a_tried a_undos a_seenHour a_seenAt a_parts a_partsThen a_kept m_letterMany m_readAt m_undoMany m_undoAt m_seenMany m_keptMany m_law u r1 hb2) (cwV 1 hts gX8_parasol_X8_isParasol rfl rfl rfl ⟨rfl, pd_X8_isParasol⟩ ⟨Nat.le_of_ble_eq_true rfl, Nat.le_of_ble_eq_true rfl⟩) rfl rfl 0 8 rfl rfl rfl rfl hl.1 rfl (Nat.le_of_ble_eq_true rfl) dX8_parasol_2 ⟨Nat.zero_le _, Nat.zero_le _⟩ (fun H locs hP hS => ?_)
  refine lv_if_ne (tgt := 10) hx hb dX8_parasol_5 (by decide) (fun c3 => ?_) (fun c3 => ?_)
  · have hF := op_neg c3 hF
    refine lv_iload_n hx hb dX8_parasol_10 rfl (lv_at hl 2 rfl) ?_
    by_cases c4 : i = (0 : Int32)
    · have hF := op_pos c4 hF
      refine lv_tableIn (x := i) (off := 33) (tgt := 44) hx hb dX8_parasol_11 (by rw [c4]; decide) (by rw [c4]; decide) (by rw [c4]; rfl) (by decide) ?_
      refine lv_aload_n hx hb dX8_parasol_44 rfl (lv_at hl 0 rfl) ?_
      refine va_get (D := D) (ci := 8) (v := .ref a_law) (C := RX8) (T := TX8) (N := 19) hx hb hts iX8 hown hK hP 0 rfl rfl 6 (by decide) k_f22 (fun _ h9 => h9) rfl dX8_parasol_45 ?_
      refine lv_iconst (v := (4 : Int32)) hx hb dX8_parasol_48 (by decide) ?_
      refine lv_iload_n hx hb dX8_parasol_49 rfl (lv_at hl 1 rfl) ?_
      refine lv_iadd hx hb dX8_parasol_50 ?_
      obtain ⟨o5, hF⟩ := op_ob hF
      refine va_iald hx hb hK hP 1 0 rfl rfl (okb_in o5) dX8_parasol_51 ?_
      cases hF
      rw [hQ]
      exact xri hC hP hS dX8_parasol_52
    · have hF := op_neg c4 hF
      by_cases c6 : i = (1 : Int32)
      · have hF := op_pos c6 hF
        refine lv_tableIn (x := i) (off := 42) (tgt := 53) hx hb dX8_parasol_11 (by rw [c6]; decide) (by rw [c6]; decide) (by rw [c6]; rfl) (by decide) ?_
        refine lv_aload_n hx hb dX8_parasol_53 rfl (lv_at hl 0 rfl) ?_
        refine va_get (D := D) (ci := 8) (v := .ref a_now) (C := RX8) (T := TX8) (N := 19) hx hb hts iX8 hown hK hP 0 rfl rfl 7 (by decide) k_f25 (fun _ h9 => h9) rfl dX8_parasol_54 ?_
        refine lv_iconst (v := (4 : Int32)) hx hb dX8_parasol_57 (by decide) ?_
        refine lv_iload_n hx hb dX8_parasol_58 rfl (lv_at hl 1 rfl) ?_
        refine lv_iadd hx hb dX8_parasol_59 ?_
        obtain ⟨o7, hF⟩ := op_ob hF
        refine va_iald hx hb hK hP 2 0 rfl rfl (okb_in o7) dX8_parasol_60 ?_
        cases hF
        rw [hQ]
        exact xri hC hP hS dX8_parasol_61
      · have hF := op_neg c6 hF
        by_cases c8 : i = (2 : Int32)
        · have hF := op_pos c8 hF
          refine lv_tableIn (x := i) (off := 51) (tgt := 62) hx hb dX8_parasol_11 (by rw [c8]; decide) (by rw [c8]; decide) (by rw [c8]; rfl) (by decide) ?_
          refine lv_aload_n hx hb dX8_parasol_62 rfl (lv_at hl 0 rfl) ?_
          refine va_get (D := D) (ci := 8) (v := .ref a_now) (C := RX8) (T := TX8) (N := 19) hx hb hts iX8 hown hK hP 0 rfl rfl 7 (by decide) k_f25 (fun _ h9 => h9) rfl dX8_parasol_63 ?_
          refine lv_bipush (v := (10 : Int32)) hx hb dX8_parasol_66 (by decide) ?_
          refine lv_iload_n hx hb dX8_parasol_68 rfl (lv_at hl 1 rfl) ?_
          refine lv_iadd hx hb dX8_parasol_69 ?_
          obtain ⟨o9, hF⟩ := op_ob hF
          refine va_iald hx hb hK hP 2 0 rfl rfl (okb_in o9) dX8_parasol_70 ?_
          cases hF
          rw [hQ]
          exact xri hC hP hS dX8_parasol_71
        · have hF := op_neg c8 hF
          by_cases c10 : i = (3 : Int32)
          · have hF := op_pos c10 hF
            refine lv_tableIn (x := i) (off := 61) (tgt := 72) hx hb dX8_parasol_11 (by rw [c10]; decide) (by rw [c10]; decide) (by rw [c10]; rfl) (by decide) ?_
            refine lv_aload_n hx hb dX8_parasol_72 rfl (lv_at hl 0 rfl) ?_
            refine lv_aload_n hx hb dX8_parasol_73 rfl (lv_at hl 0 rfl) ?_
            refine va_get (D := D) (ci := 8) (v := .ref a_now) (C := RX8) (T := TX8) (N := 19) hx hb hts iX8 hown hK hP 0 rfl rfl 7 (by decide) k_f25 (fun _ h9 => h9) rfl dX8_parasol_74 ?_
            refine lv_iload_n hx hb dX8_parasol_77 rfl (lv_at hl 1 rfl) ?_
            obtain ⟨r11, hb12, hF⟩ := op_bind hF
            refine xVr (As := [.ref a_now, .int u]) (rest := []) hC hP hD hS [0, 1, 2] (c_X8_under l D cI cC cM ax a_law a_now a_text a_told a_readLaw a_readNow a_now a_tried a_undos a_seenHour a_seenAt a_parts a_partsThen a_kept m_letterMany m_readAt m_undoMany m_undoAt m_seenMany m_keptMany m_law m_now u r11 hb12) (cwV 2 hts gX8_parasol_X8_under rfl rfl rfl ⟨rfl, pd_X8_under⟩ ⟨Nat.le_of_ble_eq_true rfl, Nat.le_of_ble_eq_true rfl⟩) rfl rfl 0 8 rfl rfl rfl rfl hl.1 rfl (Nat.le_of_ble_eq_true rfl) dX8_parasol_78 ⟨Nat.zero_le _, Nat.zero_le _⟩ (fun H locs hP hS => ?_)
            cases hF
            rw [hQ]
            exact xri hC hP hS dX8_parasol_81
          · have hF := op_neg c10 hF
            by_cases c13 : i = (4 : Int32)
            · have hF := op_pos c13 hF
              refine lv_tableIn (x := i) (off := 71) (tgt := 82) hx hb dX8_parasol_11 (by rw [c13]; decide) (by rw [c13]; decide) (by rw [c13]; rfl) (by decide) ?_
              refine lv_aload_n hx hb dX8_parasol_82 rfl (lv_at hl 0 rfl) ?_
              refine lv_aload_n hx hb dX8_parasol_83 rfl (lv_at hl 0 rfl) ?_
              refine va_get (D := D) (ci := 8) (v := .ref a_now) (C := RX8) (T := TX8) (N := 19) hx hb hts iX8 hown hK hP 0 rfl rfl 7 (by decide) k_f25 (fun _ h9 => h9) rfl dX8_parasol_84 ?_
              refine lv_iload_n hx hb dX8_parasol_87 rfl (lv_at hl 1 rfl) ?_
              obtain ⟨r14, hb15, hF⟩ := op_bind hF
              refine xVr (As := [.ref a_now, .int u]) (rest := []) hC hP hD hS [0, 1, 2] (c_X8_squareOf l D cI cC cM ax a_law a_now a_text a_told a_readLaw a_readNow a_now a_tried a_undos a_seenHour a_seenAt a_parts a_partsThen a_kept m_letterMany m_readAt m_undoMany m_undoAt m_seenMany m_keptMany m_law m_now u r14 hb15) (cwV 2 hts gX8_parasol_X8_squareOf rfl rfl rfl ⟨rfl, pd_X8_squareOf⟩ ⟨Nat.le_of_ble_eq_true rfl, Nat.le_of_ble_eq_true rfl⟩) rfl rfl 0 8 rfl rfl rfl rfl hl.1 rfl (Nat.le_of_ble_eq_true rfl) dX8_parasol_88 ⟨Nat.zero_le _, Nat.zero_le _⟩ (fun H locs hP hS => ?_)
              cases hF
              rw [hQ]
              exact xri hC hP hS dX8_parasol_91
            · have hF := op_neg c13 hF
              refine lv_tableOut (x := i) (tgt := 92) hx hb dX8_parasol_11 (by have n0 := lv_neT (a := 0) c4 rfl; have n1 := lv_neT (a := 1) c6 rfl; have n2 := lv_neT (a := 2) c8 rfl; have n3 := lv_neT (a := 3) c10 rfl; have n4 := lv_neT (a := 4) c13 rfl; omega) (by decide) ?_
              refine lv_iconst (v := (-1 : Int32)) hx hb dX8_parasol_92 (by decide) ?_
              cases hF
              rw [hQ]
              exact xri hC hP hS dX8_parasol_93
  · have hF := op_pos c3 hF
    refine lv_iconst (v := (-1 : Int32)) hx hb dX8_parasol_8 (by decide) ?_
    cases hF
    rw [hQ]
    exact xri hC hP hS dX8_parasol_9

def f_X8_person (m_law : (Nat → Int32)) (m_now : (Nat → Int32)) (u : Int32) (i : Int32) : Option Int32 := (Option.bind (f_X8_isPerson m_law u) fun r1 => (if r1 = 0 then (some (-1 : Int32)) else (if i = (0 : Int32) then (if okb ((16 : Int32) + u) 26 = true then (some (m_now ((16 : Int32) + u).toNatClampNeg)) else none) else (if i = (1 : Int32) then (if okb ((21 : Int32) + u) 26 = true then (some (m_now ((21 : Int32) + u).toNatClampNeg)) else none) else (if i = (2 : Int32) then (Option.bind (f_X8_time m_now u) fun r9 => (some r9)) else (if i = (3 : Int32) then (some (((m_now (3 : Int32).toNatClampNeg) >>> (u &&& 31)) &&& (1 : Int32))) else (if i = (4 : Int32) then (Option.bind (f_X8_hasShade m_now u) fun r13 => (if r13 = 0 then (some (0 : Int32)) else (some (1 : Int32)))) else (some (-1 : Int32)))))))))

def rm_X8_person : Room := { frames := 2, cells := 0, slots := 0, locals := 43 }

theorem pd_X8_person : yX8_person.cls ≠ "java/lang/invoke/MethodHandle" ∧ yX8_person.cls ≠ "java/lang/invoke/VarHandle" ∧ (parseMethodDescriptor yX8_person.desc).map (fun d => d.parameters.length) = some 2 := by decide +kernel

set_option maxHeartbeats 4000000 in
set_option maxRecDepth 100000 in
theorem c_X8_person (l : Launch) (D : va_G) (cI cC cM : ClassId) (ax a_law a_now a_text a_told a_readLaw a_readNow a_tried a_undos a_seenHour a_seenAt a_parts a_partsThen a_kept : Nat) (m_letterMany : Int32) (m_readAt : Int32) (m_undoMany : Int32) (m_undoAt : Int32) (m_seenMany : Int32) (m_keptMany : Int32) (m_law : (Nat → Int32)) (m_now : (Nat → Int32)) (u : Int32) (i : Int32) (rr : Int32) (hF : f_X8_person m_law m_now u i = some rr) : CI l D cI cC cM yX8_person wsX8_person rm_X8_person [.ref ax, .int u, .int i] [(ax, .inr (8, [.int m_letterMany, .ref a_text, .int m_readAt, .ref a_told, .ref a_readLaw, .ref a_readNow, .ref a_law, .ref a_now, .ref a_tried, .int m_undoMany, .int m_undoAt, .ref a_undos, .int m_seenMany, .ref a_seenHour, .ref a_seenAt, .ref a_parts, .ref a_partsThen, .int m_keptMany, .ref a_kept])), (a_law, .inl (cI, 22, .inl m_law)), (a_now, .inl (cI, 26, .inl m_now))] [(ax, .inr (8, [.int m_letterMany, .ref a_text, .int m_readAt, .ref a_told, .ref a_readLaw, .ref a_readNow, .ref a_law, .ref a_now, .ref a_tried, .int m_undoMany, .int m_undoAt, .ref a_undos, .int m_seenMany, .ref a_seenHour, .ref a_seenAt, .ref a_parts, .ref a_partsThen, .int m_keptMany, .ref a_kept])), (a_law, .inl (cI, 22, .inl m_law)), (a_now, .inl (cI, 26, .inl m_now))] rr := by
  refine CI.of (cc := cX8_person) (nL := 3) (ret := (some .int)) (by decide) rfl (Nat.le_of_ble_eq_true rfl) ?_
  intro p e s m args below meth c A hC hP hD hS ls hl
  obtain ⟨hx, hb, hml, hown, hts, hr, hlk, hG, hA⟩ := id hC
  have hown : s.vm.findClass RX8 = some m.cls := hown
  have hK := hG.1
  have hl : lv_has ls 3 [(0, .ref ax), (1, .int u), (2, .int i)] := hl
  have k_f25 := hts (.fieldLink RX8 25 "ParasolHoursModel" "now" "[I") (List.mem_of_getElem? (i := 1) rfl)
  have iX8 : ∀ w ∈ wsX80, w ∈ wsX8_person := by decide +kernel
  obtain ⟨Q, hQ⟩ : ∃ Q, Q = MQ below (QI D [(ax, .inr (8, [.int m_letterMany, .ref a_text, .int m_readAt, .ref a_told, .ref a_readLaw, .ref a_readNow, .ref a_law, .ref a_now, .ref a_tried, .int m_undoMany, .int m_undoAt, .ref a_undos, .int m_seenMany, .ref a_seenHour, .ref a_seenAt, .ref a_parts, .ref a_partsThen, .int m_keptMany, .ref a_kept])), (a_law, .inl (cI, 22, .inl m_law)), (a_now, .inl (cI, 26, .inl m_now))] rr A) args s 0 0 A := ⟨_, rfl⟩
  rw [← hQ]
  unfold f_X8_person at hF
  refine lv_aload_n hx hb dX8_person_0 rfl (lv_at hl 0 rfl) ?_
  refine lv_iload_n hx hb dX8_person_1 rfl (lv_at hl 1 rfl) ?_
  obtain ⟨r1, hb2, hF⟩ := op_bind hF
  refine xVr (As := [.int u]) (rest := []) hC hP hD hS [0, 1] (c_X8_isPerson l D cI cC cM ax a_law a_text a_told a_readLaw a_readNow a_now a_tried a_undos a_seenHour a_seenAt a_parts a_partsThen a_kept m_letterMany m_readAt m_undoMany m_undoAt m_seenMany m_keptMany m_law u r1 hb2) (cwV 1 hts gX8_person_X8_isPerson rfl rfl rfl ⟨rfl, pd_X8_isPerson⟩ ⟨Nat.le_of_ble_eq_true rfl, Nat.le_of_ble_eq_true rfl⟩) rfl rfl 0 8 rfl rfl rfl rfl hl.1 rfl (Nat.le_of_ble_eq_true rfl) dX8_person_2 ⟨Nat.zero_le _, Nat.zero_le _⟩ (fun H locs hP hS => ?_)
  refine lv_if_ne (tgt := 10) hx hb dX8_person_5 (by decide) (fun c3 => ?_) (fun c3 => ?_)
  · have hF := op_neg c3 hF
    refine lv_iload_n hx hb dX8_person_10 rfl (lv_at hl 2 rfl) ?_
    by_cases c4 : i = (0 : Int32)
    · have hF := op_pos c4 hF
      refine lv_tableIn (x := i) (off := 33) (tgt := 44) hx hb dX8_person_11 (by rw [c4]; decide) (by rw [c4]; decide) (by rw [c4]; rfl) (by decide) ?_
      refine lv_aload_n hx hb dX8_person_44 rfl (lv_at hl 0 rfl) ?_
      refine va_get (D := D) (ci := 8) (v := .ref a_now) (C := RX8) (T := TX8) (N := 19) hx hb hts iX8 hown hK hP 0 rfl rfl 7 (by decide) k_f25 (fun _ h9 => h9) rfl dX8_person_45 ?_
      refine lv_bipush (v := (16 : Int32)) hx hb dX8_person_48 (by decide) ?_
      refine lv_iload_n hx hb dX8_person_50 rfl (lv_at hl 1 rfl) ?_
      refine lv_iadd hx hb dX8_person_51 ?_
      obtain ⟨o5, hF⟩ := op_ob hF
      refine va_iald hx hb hK hP 2 0 rfl rfl (okb_in o5) dX8_person_52 ?_
      cases hF
      rw [hQ]
      exact xri hC hP hS dX8_person_53
    · have hF := op_neg c4 hF
      by_cases c6 : i = (1 : Int32)
      · have hF := op_pos c6 hF
        refine lv_tableIn (x := i) (off := 43) (tgt := 54) hx hb dX8_person_11 (by rw [c6]; decide) (by rw [c6]; decide) (by rw [c6]; rfl) (by decide) ?_
        refine lv_aload_n hx hb dX8_person_54 rfl (lv_at hl 0 rfl) ?_
        refine va_get (D := D) (ci := 8) (v := .ref a_now) (C := RX8) (T := TX8) (N := 19) hx hb hts iX8 hown hK hP 0 rfl rfl 7 (by decide) k_f25 (fun _ h9 => h9) rfl dX8_person_55 ?_
        refine lv_bipush (v := (21 : Int32)) hx hb dX8_person_58 (by decide) ?_
        refine lv_iload_n hx hb dX8_person_60 rfl (lv_at hl 1 rfl) ?_
        refine lv_iadd hx hb dX8_person_61 ?_
        obtain ⟨o7, hF⟩ := op_ob hF
        refine va_iald hx hb hK hP 2 0 rfl rfl (okb_in o7) dX8_person_62 ?_
        cases hF
        rw [hQ]
        exact xri hC hP hS dX8_person_63
      · have hF := op_neg c6 hF
        by_cases c8 : i = (2 : Int32)
        · have hF := op_pos c8 hF
          refine lv_tableIn (x := i) (off := 53) (tgt := 64) hx hb dX8_person_11 (by rw [c8]; decide) (by rw [c8]; decide) (by rw [c8]; rfl) (by decide) ?_
          refine lv_aload_n hx hb dX8_person_64 rfl (lv_at hl 0 rfl) ?_
          refine va_get (D := D) (ci := 8) (v := .ref a_now) (C := RX8) (T := TX8) (N := 19) hx hb hts iX8 hown hK hP 0 rfl rfl 7 (by decide) k_f25 (fun _ h9 => h9) rfl dX8_person_65 ?_
          refine lv_iload_n hx hb dX8_person_68 rfl (lv_at hl 1 rfl) ?_
          obtain ⟨r9, hb10, hF⟩ := op_bind hF
          refine xSr (As := [.ref a_now, .int u]) (rest := []) hC hP hD hS [2] (c_X8_time l D cI cC cM a_now m_now u r9 hb10) (va_cwS 2 hts gX8_person_X8_time rfl rfl rfl pd_X8_time ⟨Nat.le_of_ble_eq_true rfl, Nat.le_of_ble_eq_true rfl⟩) rfl rfl rfl hl.1 rfl (Nat.le_of_ble_eq_true rfl) dX8_person_69 ⟨Nat.zero_le _, Nat.zero_le _⟩ (fun H locs hP hS => ?_)
          cases hF
          rw [hQ]
          exact xri hC hP hS dX8_person_72
        · have hF := op_neg c8 hF
          by_cases c11 : i = (3 : Int32)
          · have hF := op_pos c11 hF
            refine lv_tableIn (x := i) (off := 62) (tgt := 73) hx hb dX8_person_11 (by rw [c11]; decide) (by rw [c11]; decide) (by rw [c11]; rfl) (by decide) ?_
            refine lv_aload_n hx hb dX8_person_73 rfl (lv_at hl 0 rfl) ?_
            refine va_get (D := D) (ci := 8) (v := .ref a_now) (C := RX8) (T := TX8) (N := 19) hx hb hts iX8 hown hK hP 0 rfl rfl 7 (by decide) k_f25 (fun _ h9 => h9) rfl dX8_person_74 ?_
            refine lv_iconst (v := (3 : Int32)) hx hb dX8_person_77 (by decide) ?_
            refine va_iald hx hb hK hP 2 0 rfl rfl (okb_in (by decide)) dX8_person_78 ?_
            refine lv_iload_n hx hb dX8_person_79 rfl (lv_at hl 1 rfl) ?_
            refine lv_ishr hx hb dX8_person_80 ?_
            refine lv_iconst (v := (1 : Int32)) hx hb dX8_person_81 (by decide) ?_
            refine lv_iand hx hb dX8_person_82 ?_
            cases hF
            rw [hQ]
            exact xri hC hP hS dX8_person_83
          · have hF := op_neg c11 hF
            by_cases c12 : i = (4 : Int32)
            · have hF := op_pos c12 hF
              refine lv_tableIn (x := i) (off := 73) (tgt := 84) hx hb dX8_person_11 (by rw [c12]; decide) (by rw [c12]; decide) (by rw [c12]; rfl) (by decide) ?_
              refine lv_aload_n hx hb dX8_person_84 rfl (lv_at hl 0 rfl) ?_
              refine va_get (D := D) (ci := 8) (v := .ref a_now) (C := RX8) (T := TX8) (N := 19) hx hb hts iX8 hown hK hP 0 rfl rfl 7 (by decide) k_f25 (fun _ h9 => h9) rfl dX8_person_85 ?_
              refine lv_iload_n hx hb dX8_person_88 rfl (lv_at hl 1 rfl) ?_
              obtain ⟨r13, hb14, hF⟩ := op_bind hF
              refine xSr (As := [.ref a_now, .int u]) (rest := []) hC hP hD hS [2] (c_X8_hasShade l D cI cC cM a_now m_now u r13 hb14) (va_cwS 2 hts gX8_person_X8_hasShade rfl rfl rfl pd_X8_hasShade ⟨Nat.le_of_ble_eq_true rfl, Nat.le_of_ble_eq_true rfl⟩) rfl rfl rfl hl.1 rfl (Nat.le_of_ble_eq_true rfl) dX8_person_89 ⟨Nat.zero_le _, Nat.zero_le _⟩ (fun H locs hP hS => ?_)
              refine lv_if_eq (tgt := 99) hx hb dX8_person_92 (by decide) (fun c15 => ?_) (fun c15 => ?_)
              · have hF := op_pos c15 hF
                refine lv_iconst (v := (0 : Int32)) hx hb dX8_person_99 (by decide) ?_
                cases hF
                rw [hQ]
                exact xri hC hP hS dX8_person_100
              · have hF := op_neg c15 hF
                refine lv_iconst (v := (1 : Int32)) hx hb dX8_person_95 (by decide) ?_
                refine lv_goto (tgt := 100) hx hb dX8_person_96 (by decide) ?_
                cases hF
                rw [hQ]
                exact xri hC hP hS dX8_person_100
            · have hF := op_neg c12 hF
              refine lv_tableOut (x := i) (tgt := 101) hx hb dX8_person_11 (by have n0 := lv_neT (a := 0) c4 rfl; have n1 := lv_neT (a := 1) c6 rfl; have n2 := lv_neT (a := 2) c8 rfl; have n3 := lv_neT (a := 3) c11 rfl; have n4 := lv_neT (a := 4) c12 rfl; omega) (by decide) ?_
              refine lv_iconst (v := (-1 : Int32)) hx hb dX8_person_101 (by decide) ?_
              cases hF
              rw [hQ]
              exact xri hC hP hS dX8_person_102
  · have hF := op_pos c3 hF
    refine lv_iconst (v := (-1 : Int32)) hx hb dX8_person_8 (by decide) ?_
    cases hF
    rw [hQ]
    exact xri hC hP hS dX8_person_9

def f_X8_work (m_law : (Nat → Int32)) (m_now : (Nat → Int32)) (u : Int32) (i : Int32) : Option Int32 := (Option.bind (f_X8_isWork m_law u) fun r1 => (if r1 = 0 then (some (-1 : Int32)) else (if i = (0 : Int32) then (if okb ((10 : Int32) + u) 22 = true then (some (m_law ((10 : Int32) + u).toNatClampNeg)) else none) else (if i = (1 : Int32) then (if okb ((16 : Int32) + u) 22 = true then (some (m_law ((16 : Int32) + u).toNatClampNeg)) else none) else (if i = (2 : Int32) then (some (((m_now (2 : Int32).toNatClampNeg) >>> (u &&& 31)) &&& (1 : Int32))) else (some (-1 : Int32)))))))

def rm_X8_work : Room := { frames := 2, cells := 0, slots := 0, locals := 43 }

theorem pd_X8_work : yX8_work.cls ≠ "java/lang/invoke/MethodHandle" ∧ yX8_work.cls ≠ "java/lang/invoke/VarHandle" ∧ (parseMethodDescriptor yX8_work.desc).map (fun d => d.parameters.length) = some 2 := by decide +kernel

set_option maxHeartbeats 4000000 in
set_option maxRecDepth 100000 in
theorem c_X8_work (l : Launch) (D : va_G) (cI cC cM : ClassId) (ax a_law a_now a_text a_told a_readLaw a_readNow a_tried a_undos a_seenHour a_seenAt a_parts a_partsThen a_kept : Nat) (m_letterMany : Int32) (m_readAt : Int32) (m_undoMany : Int32) (m_undoAt : Int32) (m_seenMany : Int32) (m_keptMany : Int32) (m_law : (Nat → Int32)) (m_now : (Nat → Int32)) (u : Int32) (i : Int32) (rr : Int32) (hF : f_X8_work m_law m_now u i = some rr) : CI l D cI cC cM yX8_work wsX8_work rm_X8_work [.ref ax, .int u, .int i] [(ax, .inr (8, [.int m_letterMany, .ref a_text, .int m_readAt, .ref a_told, .ref a_readLaw, .ref a_readNow, .ref a_law, .ref a_now, .ref a_tried, .int m_undoMany, .int m_undoAt, .ref a_undos, .int m_seenMany, .ref a_seenHour, .ref a_seenAt, .ref a_parts, .ref a_partsThen, .int m_keptMany, .ref a_kept])), (a_law, .inl (cI, 22, .inl m_law)), (a_now, .inl (cI, 26, .inl m_now))] [(ax, .inr (8, [.int m_letterMany, .ref a_text, .int m_readAt, .ref a_told, .ref a_readLaw, .ref a_readNow, .ref a_law, .ref a_now, .ref a_tried, .int m_undoMany, .int m_undoAt, .ref a_undos, .int m_seenMany, .ref a_seenHour, .ref a_seenAt, .ref a_parts, .ref a_partsThen, .int m_keptMany, .ref a_kept])), (a_law, .inl (cI, 22, .inl m_law)), (a_now, .inl (cI, 26, .inl m_now))] rr := by
  refine CI.of (cc := cX8_work) (nL := 3) (ret := (some .int)) (by decide) rfl (Nat.le_of_ble_eq_true rfl) ?_
  intro p e s m args below meth c A hC hP hD hS ls hl
  obtain ⟨hx, hb, hml, hown, hts, hr, hlk, hG, hA⟩ := id hC
  have hown : s.vm.findClass RX8 = some m.cls := hown
  have hK := hG.1
  have hl : lv_has ls 3 [(0, .ref ax), (1, .int u), (2, .int i)] := hl
  have k_f22 := hts (.fieldLink RX8 22 "ParasolHoursModel" "law" "[I") (List.mem_of_getElem? (i := 1) rfl)
  have k_f25 := hts (.fieldLink RX8 25 "ParasolHoursModel" "now" "[I") (List.mem_of_getElem? (i := 2) rfl)
  have iX8 : ∀ w ∈ wsX80, w ∈ wsX8_work := by decide +kernel
  obtain ⟨Q, hQ⟩ : ∃ Q, Q = MQ below (QI D [(ax, .inr (8, [.int m_letterMany, .ref a_text, .int m_readAt, .ref a_told, .ref a_readLaw, .ref a_readNow, .ref a_law, .ref a_now, .ref a_tried, .int m_undoMany, .int m_undoAt, .ref a_undos, .int m_seenMany, .ref a_seenHour, .ref a_seenAt, .ref a_parts, .ref a_partsThen, .int m_keptMany, .ref a_kept])), (a_law, .inl (cI, 22, .inl m_law)), (a_now, .inl (cI, 26, .inl m_now))] rr A) args s 0 0 A := ⟨_, rfl⟩
  rw [← hQ]
  unfold f_X8_work at hF
  refine lv_aload_n hx hb dX8_work_0 rfl (lv_at hl 0 rfl) ?_
  refine lv_iload_n hx hb dX8_work_1 rfl (lv_at hl 1 rfl) ?_
  obtain ⟨r1, hb2, hF⟩ := op_bind hF
  refine xVr (As := [.int u]) (rest := []) hC hP hD hS [0, 1] (c_X8_isWork l D cI cC cM ax a_law a_text a_told a_readLaw a_readNow a_now a_tried a_undos a_seenHour a_seenAt a_parts a_partsThen a_kept m_letterMany m_readAt m_undoMany m_undoAt m_seenMany m_keptMany m_law u r1 hb2) (cwV 1 hts gX8_work_X8_isWork rfl rfl rfl ⟨rfl, pd_X8_isWork⟩ ⟨Nat.le_of_ble_eq_true rfl, Nat.le_of_ble_eq_true rfl⟩) rfl rfl 0 8 rfl rfl rfl rfl hl.1 rfl (Nat.le_of_ble_eq_true rfl) dX8_work_2 ⟨Nat.zero_le _, Nat.zero_le _⟩ (fun H locs hP hS => ?_)
  refine lv_if_ne (tgt := 10) hx hb dX8_work_5 (by decide) (fun c3 => ?_) (fun c3 => ?_)
  · have hF := op_neg c3 hF
    refine lv_iload_n hx hb dX8_work_10 rfl (lv_at hl 2 rfl) ?_
    by_cases c4 : i = (0 : Int32)
    · have hF := op_pos c4 hF
      refine lv_tableIn (x := i) (off := 25) (tgt := 36) hx hb dX8_work_11 (by rw [c4]; decide) (by rw [c4]; decide) (by rw [c4]; rfl) (by decide) ?_
      refine lv_aload_n hx hb dX8_work_36 rfl (lv_at hl 0 rfl) ?_
      refine va_get (D := D) (ci := 8) (v := .ref a_law) (C := RX8) (T := TX8) (N := 19) hx hb hts iX8 hown hK hP 0 rfl rfl 6 (by decide) k_f22 (fun _ h9 => h9) rfl dX8_work_37 ?_
      refine lv_bipush (v := (10 : Int32)) hx hb dX8_work_40 (by decide) ?_
      refine lv_iload_n hx hb dX8_work_42 rfl (lv_at hl 1 rfl) ?_
      refine lv_iadd hx hb dX8_work_43 ?_
      obtain ⟨o5, hF⟩ := op_ob hF
      refine va_iald hx hb hK hP 1 0 rfl rfl (okb_in o5) dX8_work_44 ?_
      cases hF
      rw [hQ]
      exact xri hC hP hS dX8_work_45
    · have hF := op_neg c4 hF
      by_cases c6 : i = (1 : Int32)
      · have hF := op_pos c6 hF
        refine lv_tableIn (x := i) (off := 35) (tgt := 46) hx hb dX8_work_11 (by rw [c6]; decide) (by rw [c6]; decide) (by rw [c6]; rfl) (by decide) ?_
        refine lv_aload_n hx hb dX8_work_46 rfl (lv_at hl 0 rfl) ?_
        refine va_get (D := D) (ci := 8) (v := .ref a_law) (C := RX8) (T := TX8) (N := 19) hx hb hts iX8 hown hK hP 0 rfl rfl 6 (by decide) k_f22 (fun _ h9 => h9) rfl dX8_work_47 ?_
        refine lv_bipush (v := (16 : Int32)) hx hb dX8_work_50 (by decide) ?_
        refine lv_iload_n hx hb dX8_work_52 rfl (lv_at hl 1 rfl) ?_
        refine lv_iadd hx hb dX8_work_53 ?_
        obtain ⟨o7, hF⟩ := op_ob hF
        refine va_iald hx hb hK hP 1 0 rfl rfl (okb_in o7) dX8_work_54 ?_
        cases hF
        rw [hQ]
        exact xri hC hP hS dX8_work_55
      · have hF := op_neg c6 hF
        by_cases c8 : i = (2 : Int32)
        · have hF := op_pos c8 hF
          refine lv_tableIn (x := i) (off := 45) (tgt := 56) hx hb dX8_work_11 (by rw [c8]; decide) (by rw [c8]; decide) (by rw [c8]; rfl) (by decide) ?_
          refine lv_aload_n hx hb dX8_work_56 rfl (lv_at hl 0 rfl) ?_
          refine va_get (D := D) (ci := 8) (v := .ref a_now) (C := RX8) (T := TX8) (N := 19) hx hb hts iX8 hown hK hP 0 rfl rfl 7 (by decide) k_f25 (fun _ h9 => h9) rfl dX8_work_57 ?_
          refine lv_iconst (v := (2 : Int32)) hx hb dX8_work_60 (by decide) ?_
          refine va_iald hx hb hK hP 2 0 rfl rfl (okb_in (by decide)) dX8_work_61 ?_
          refine lv_iload_n hx hb dX8_work_62 rfl (lv_at hl 1 rfl) ?_
          refine lv_ishr hx hb dX8_work_63 ?_
          refine lv_iconst (v := (1 : Int32)) hx hb dX8_work_64 (by decide) ?_
          refine lv_iand hx hb dX8_work_65 ?_
          cases hF
          rw [hQ]
          exact xri hC hP hS dX8_work_66
        · have hF := op_neg c8 hF
          refine lv_tableOut (x := i) (tgt := 67) hx hb dX8_work_11 (by have n0 := lv_neT (a := 0) c4 rfl; have n1 := lv_neT (a := 1) c6 rfl; have n2 := lv_neT (a := 2) c8 rfl; omega) (by decide) ?_
          refine lv_iconst (v := (-1 : Int32)) hx hb dX8_work_67 (by decide) ?_
          cases hF
          rw [hQ]
          exact xri hC hP hS dX8_work_68
  · have hF := op_pos c3 hF
    refine lv_iconst (v := (-1 : Int32)) hx hb dX8_work_8 (by decide) ?_
    cases hF
    rw [hQ]
    exact xri hC hP hS dX8_work_9

def f_X8_takes (m_law : (Nat → Int32)) (o : (Nat → Int32)) (i : Int32) (u : Int32) : Option (Int32 × (Nat → Int32)) := (Option.bind (f_X8_has (o (3 : Int32).toNatClampNeg) i) fun r1 => (if r1 = 0 then (if okb ((16 : Int32) + i) 26 = true then (if (o ((16 : Int32) + i).toNatClampNeg) = 0 then (if okb ((21 : Int32) + i) 26 = true then (if (o ((21 : Int32) + i).toNatClampNeg) = (-4 : Int32) then (Option.bind (f_X8_under m_law o u) fun r8 => (if r8 = 0 then (some ((1 : Int32), (upd o ((21 : Int32) + i).toNatClampNeg u))) else (some ((0 : Int32), o)))) else (some ((0 : Int32), o))) else none) else (some ((0 : Int32), o))) else none) else (some ((0 : Int32), o))))

def rm_X8_takes : Room := { frames := 1, cells := 0, slots := 0, locals := 24 }

theorem pd_X8_takes : yX8_takes.cls ≠ "java/lang/invoke/MethodHandle" ∧ yX8_takes.cls ≠ "java/lang/invoke/VarHandle" ∧ (parseMethodDescriptor yX8_takes.desc).map (fun d => d.parameters.length) = some 3 := by decide +kernel

set_option maxHeartbeats 4000000 in
set_option maxRecDepth 100000 in
theorem c_X8_takes (l : Launch) (D : va_G) (cI cC cM : ClassId) (ax a_law a_of a_text a_told a_readLaw a_readNow a_now a_tried a_undos a_seenHour a_seenAt a_parts a_partsThen a_kept : Nat) (m_letterMany : Int32) (m_readAt : Int32) (m_undoMany : Int32) (m_undoAt : Int32) (m_seenMany : Int32) (m_keptMany : Int32) (m_law : (Nat → Int32)) (o : (Nat → Int32)) (i : Int32) (u : Int32) (rr : Int32) (o' : (Nat → Int32)) (hF : f_X8_takes m_law o i u = some (rr, o')) : CI l D cI cC cM yX8_takes wsX8_takes rm_X8_takes [.ref ax, .ref a_of, .int i, .int u] [(ax, .inr (8, [.int m_letterMany, .ref a_text, .int m_readAt, .ref a_told, .ref a_readLaw, .ref a_readNow, .ref a_law, .ref a_now, .ref a_tried, .int m_undoMany, .int m_undoAt, .ref a_undos, .int m_seenMany, .ref a_seenHour, .ref a_seenAt, .ref a_parts, .ref a_partsThen, .int m_keptMany, .ref a_kept])), (a_law, .inl (cI, 22, .inl m_law)), (a_of, .inl (cI, 26, .inl o))] [(ax, .inr (8, [.int m_letterMany, .ref a_text, .int m_readAt, .ref a_told, .ref a_readLaw, .ref a_readNow, .ref a_law, .ref a_now, .ref a_tried, .int m_undoMany, .int m_undoAt, .ref a_undos, .int m_seenMany, .ref a_seenHour, .ref a_seenAt, .ref a_parts, .ref a_partsThen, .int m_keptMany, .ref a_kept])), (a_law, .inl (cI, 22, .inl m_law)), (a_of, .inl (cI, 26, .inl o'))] rr := by
  refine CI.of (cc := cX8_takes) (nL := 4) (ret := (some .boolean)) (by decide) rfl (Nat.le_of_ble_eq_true rfl) ?_
  intro p e s m args below meth c A hC hP hD hS ls hl
  obtain ⟨hx, hb, hml, hown, hts, hr, hlk, hG, hA⟩ := id hC
  have hown : s.vm.findClass RX8 = some m.cls := hown
  have hK := hG.1
  have hl : lv_has ls 4 [(0, .ref ax), (1, .ref a_of), (2, .int i), (3, .int u)] := hl
  obtain ⟨Q, hQ⟩ : ∃ Q, Q = MQ below (QI D [(ax, .inr (8, [.int m_letterMany, .ref a_text, .int m_readAt, .ref a_told, .ref a_readLaw, .ref a_readNow, .ref a_law, .ref a_now, .ref a_tried, .int m_undoMany, .int m_undoAt, .ref a_undos, .int m_seenMany, .ref a_seenHour, .ref a_seenAt, .ref a_parts, .ref a_partsThen, .int m_keptMany, .ref a_kept])), (a_law, .inl (cI, 22, .inl m_law)), (a_of, .inl (cI, 26, .inl o'))] rr A) args s 0 0 A := ⟨_, rfl⟩
  rw [← hQ]
  unfold f_X8_takes at hF
  refine lv_aload_n hx hb dX8_takes_0 rfl (lv_at hl 1 rfl) ?_
  refine lv_iconst (v := (3 : Int32)) hx hb dX8_takes_1 (by decide) ?_
  refine va_iald hx hb hK hP 2 0 rfl rfl (okb_in (by decide)) dX8_takes_2 ?_
  refine lv_iload_n hx hb dX8_takes_3 rfl (lv_at hl 2 rfl) ?_
  obtain ⟨r1, hb2, hF⟩ := op_bind hF
  refine xSr (As := [.int (o (3 : Int32).toNatClampNeg), .int i]) (rest := []) hC hP hD hS [] (c_X8_has l D cI cC cM (o (3 : Int32).toNatClampNeg) i r1 hb2) (va_cwS 2 hts gX8_takes_X8_has rfl rfl rfl pd_X8_has ⟨Nat.le_of_ble_eq_true rfl, Nat.le_of_ble_eq_true rfl⟩) rfl rfl rfl hl.1 rfl (Nat.le_of_ble_eq_true rfl) dX8_takes_4 ⟨Nat.zero_le _, Nat.zero_le _⟩ (fun H locs hP hS => ?_)
  refine lv_if_ne (tgt := 39) hx hb dX8_takes_7 (by decide) (fun c3 => ?_) (fun c3 => ?_)
  · have hF := op_neg c3 hF
    refine lv_iconst (v := (0 : Int32)) hx hb dX8_takes_39 (by decide) ?_
    cases hF
    rw [hQ]
    exact xrz hC rfl hP hS dX8_takes_40
  · have hF := op_pos c3 hF
    refine lv_aload_n hx hb dX8_takes_10 rfl (lv_at hl 1 rfl) ?_
    refine lv_bipush (v := (16 : Int32)) hx hb dX8_takes_11 (by decide) ?_
    refine lv_iload_n hx hb dX8_takes_13 rfl (lv_at hl 2 rfl) ?_
    refine lv_iadd hx hb dX8_takes_14 ?_
    obtain ⟨o4, hF⟩ := op_ob hF
    refine va_iald hx hb hK hP 2 0 rfl rfl (okb_in o4) dX8_takes_15 ?_
    refine lv_if_ne (tgt := 39) hx hb dX8_takes_16 (by decide) (fun c5 => ?_) (fun c5 => ?_)
    · have hF := op_neg c5 hF
      refine lv_iconst (v := (0 : Int32)) hx hb dX8_takes_39 (by decide) ?_
      cases hF
      rw [hQ]
      exact xrz hC rfl hP hS dX8_takes_40
    · have hF := op_pos c5 hF
      refine lv_aload_n hx hb dX8_takes_19 rfl (lv_at hl 1 rfl) ?_
      refine lv_bipush (v := (21 : Int32)) hx hb dX8_takes_20 (by decide) ?_
      refine lv_iload_n hx hb dX8_takes_22 rfl (lv_at hl 2 rfl) ?_
      refine lv_iadd hx hb dX8_takes_23 ?_
      obtain ⟨o6, hF⟩ := op_ob hF
      refine va_iald hx hb hK hP 2 0 rfl rfl (okb_in o6) dX8_takes_24 ?_
      refine lv_bipush (v := (-4 : Int32)) hx hb dX8_takes_25 (by decide) ?_
      refine lv_icmp_ne (tgt := 39) hx hb dX8_takes_27 (by decide) (fun c7 => ?_) (fun c7 => ?_)
      · have hF := op_neg c7 hF
        refine lv_iconst (v := (0 : Int32)) hx hb dX8_takes_39 (by decide) ?_
        cases hF
        rw [hQ]
        exact xrz hC rfl hP hS dX8_takes_40
      · have hF := op_pos c7 hF
        refine lv_aload_n hx hb dX8_takes_30 rfl (lv_at hl 0 rfl) ?_
        refine lv_aload_n hx hb dX8_takes_31 rfl (lv_at hl 1 rfl) ?_
        refine lv_iload_n hx hb dX8_takes_32 rfl (lv_at hl 3 rfl) ?_
        obtain ⟨r8, hb9, hF⟩ := op_bind hF
        refine xVr (As := [.ref a_of, .int u]) (rest := []) hC hP hD hS [0, 1, 2] (c_X8_under l D cI cC cM ax a_law a_of a_text a_told a_readLaw a_readNow a_now a_tried a_undos a_seenHour a_seenAt a_parts a_partsThen a_kept m_letterMany m_readAt m_undoMany m_undoAt m_seenMany m_keptMany m_law o u r8 hb9) (cwV 2 hts gX8_takes_X8_under rfl rfl rfl ⟨rfl, pd_X8_under⟩ ⟨Nat.le_of_ble_eq_true rfl, Nat.le_of_ble_eq_true rfl⟩) rfl rfl 0 8 rfl rfl rfl rfl hl.1 rfl (Nat.le_of_ble_eq_true rfl) dX8_takes_33 ⟨Nat.zero_le _, Nat.zero_le _⟩ (fun H locs hP hS => ?_)
        refine lv_if_eq (tgt := 41) hx hb dX8_takes_36 (by decide) (fun c10 => ?_) (fun c10 => ?_)
        · have hF := op_pos c10 hF
          refine lv_aload_n hx hb dX8_takes_41 rfl (lv_at hl 1 rfl) ?_
          refine lv_bipush (v := (21 : Int32)) hx hb dX8_takes_42 (by decide) ?_
          refine lv_iload_n hx hb dX8_takes_44 rfl (lv_at hl 2 rfl) ?_
          refine lv_iadd hx hb dX8_takes_45 ?_
          refine lv_iload_n hx hb dX8_takes_46 rfl (lv_at hl 3 rfl) ?_
          refine va_iast hx hb hK hP hD hS 2 0 rfl rfl (okb_in o6) dX8_takes_47 (fun H locs hP hD hS => ?_)
          have hP : va_P D vwCl [(ax, .inr (8, [.int m_letterMany, .ref a_text, .int m_readAt, .ref a_told, .ref a_readLaw, .ref a_readNow, .ref a_law, .ref a_now, .ref a_tried, .int m_undoMany, .int m_undoAt, .ref a_undos, .int m_seenMany, .ref a_seenHour, .ref a_seenAt, .ref a_parts, .ref a_partsThen, .int m_keptMany, .ref a_kept])), (a_law, .inl (cI, 22, .inl m_law)), (a_of, .inl (cI, 26, .inl (upd o ((21 : Int32) + i).toNatClampNeg u)))] H := hP
          have hD : va_D A [(ax, .inr (8, [.int m_letterMany, .ref a_text, .int m_readAt, .ref a_told, .ref a_readLaw, .ref a_readNow, .ref a_law, .ref a_now, .ref a_tried, .int m_undoMany, .int m_undoAt, .ref a_undos, .int m_seenMany, .ref a_seenHour, .ref a_seenAt, .ref a_parts, .ref a_partsThen, .int m_keptMany, .ref a_kept])), (a_law, .inl (cI, 22, .inl m_law)), (a_of, .inl (cI, 26, .inl (upd o ((21 : Int32) + i).toNatClampNeg u)))] := hD
          refine lv_iconst (v := (1 : Int32)) hx hb dX8_takes_48 (by decide) ?_
          cases hF
          rw [hQ]
          exact xrz hC rfl hP hS dX8_takes_49
        · have hF := op_neg c10 hF
          refine lv_iconst (v := (0 : Int32)) hx hb dX8_takes_39 (by decide) ?_
          cases hF
          rw [hQ]
          exact xrz hC rfl hP hS dX8_takes_40

def f_X8_shares (m_law : (Nat → Int32)) (o : (Nat → Int32)) (i : Int32) (j : Int32) : Option (Int32 × (Nat → Int32)) := (if okb ((21 : Int32) + j) 26 = true then (if i = j then (some ((0 : Int32), o)) else (if okb ((21 : Int32) + i) 26 = true then (if (o ((21 : Int32) + i).toNatClampNeg) = (-4 : Int32) then (if (o ((21 : Int32) + j).toNatClampNeg) = (-4 : Int32) then (some ((0 : Int32), o)) else (if okb ((16 : Int32) + i) 26 = true then (if okb ((16 : Int32) + j) 26 = true then (if (o ((16 : Int32) + i).toNatClampNeg) = (o ((16 : Int32) + j).toNatClampNeg) then (Option.bind (f_X8_under m_law o (o ((21 : Int32) + j).toNatClampNeg)) fun r9 => (Option.bind (f_X8_bits r9) fun r11 => (if r11 ≤ (1 : Int32) then (some ((1 : Int32), (upd (upd o ((21 : Int32) + i).toNatClampNeg (o ((21 : Int32) + j).toNatClampNeg)) (3 : Int32).toNatClampNeg (((upd o ((21 : Int32) + i).toNatClampNeg (o ((21 : Int32) + j).toNatClampNeg)) (3 : Int32).toNatClampNeg) &&& (((1 : Int32) <<< (i &&& 31)) ^^^ (-1 : Int32)))))) else (some ((0 : Int32), o))))) else (some ((0 : Int32), o))) else none) else none)) else (some ((0 : Int32), o))) else none)) else none)

def rm_X8_shares : Room := { frames := 1, cells := 0, slots := 0, locals := 24 }

theorem pd_X8_shares : yX8_shares.cls ≠ "java/lang/invoke/MethodHandle" ∧ yX8_shares.cls ≠ "java/lang/invoke/VarHandle" ∧ (parseMethodDescriptor yX8_shares.desc).map (fun d => d.parameters.length) = some 3 := by decide +kernel

set_option maxHeartbeats 4000000 in
set_option maxRecDepth 100000 in
theorem c_X8_shares (l : Launch) (D : va_G) (cI cC cM : ClassId) (ax a_law a_of a_text a_told a_readLaw a_readNow a_now a_tried a_undos a_seenHour a_seenAt a_parts a_partsThen a_kept : Nat) (m_letterMany : Int32) (m_readAt : Int32) (m_undoMany : Int32) (m_undoAt : Int32) (m_seenMany : Int32) (m_keptMany : Int32) (m_law : (Nat → Int32)) (o : (Nat → Int32)) (i : Int32) (j : Int32) (rr : Int32) (o' : (Nat → Int32)) (hF : f_X8_shares m_law o i j = some (rr, o')) : CI l D cI cC cM yX8_shares wsX8_shares rm_X8_shares [.ref ax, .ref a_of, .int i, .int j] [(ax, .inr (8, [.int m_letterMany, .ref a_text, .int m_readAt, .ref a_told, .ref a_readLaw, .ref a_readNow, .ref a_law, .ref a_now, .ref a_tried, .int m_undoMany, .int m_undoAt, .ref a_undos, .int m_seenMany, .ref a_seenHour, .ref a_seenAt, .ref a_parts, .ref a_partsThen, .int m_keptMany, .ref a_kept])), (a_law, .inl (cI, 22, .inl m_law)), (a_of, .inl (cI, 26, .inl o))] [(ax, .inr (8, [.int m_letterMany, .ref a_text, .int m_readAt, .ref a_told, .ref a_readLaw, .ref a_readNow, .ref a_law, .ref a_now, .ref a_tried, .int m_undoMany, .int m_undoAt, .ref a_undos, .int m_seenMany, .ref a_seenHour, .ref a_seenAt, .ref a_parts, .ref a_partsThen, .int m_keptMany, .ref a_kept])), (a_law, .inl (cI, 22, .inl m_law)), (a_of, .inl (cI, 26, .inl o'))] rr := by
  refine CI.of (cc := cX8_shares) (nL := 5) (ret := (some .boolean)) (by decide) rfl (Nat.le_of_ble_eq_true rfl) ?_
  intro p e s m args below meth c A hC hP hD hS ls hl
  obtain ⟨hx, hb, hml, hown, hts, hr, hlk, hG, hA⟩ := id hC
  have hown : s.vm.findClass RX8 = some m.cls := hown
  have hK := hG.1
  have hl : lv_has ls 5 [(0, .ref ax), (1, .ref a_of), (2, .int i), (3, .int j)] := hl
  obtain ⟨Q, hQ⟩ : ∃ Q, Q = MQ below (QI D [(ax, .inr (8, [.int m_letterMany, .ref a_text, .int m_readAt, .ref a_told, .ref a_readLaw, .ref a_readNow, .ref a_law, .ref a_now, .ref a_tried, .int m_undoMany, .int m_undoAt, .ref a_undos, .int m_seenMany, .ref a_seenHour, .ref a_seenAt, .ref a_parts, .ref a_partsThen, .int m_keptMany, .ref a_kept])), (a_law, .inl (cI, 22, .inl m_law)), (a_of, .inl (cI, 26, .inl o'))] rr A) args s 0 0 A := ⟨_, rfl⟩
  rw [← hQ]
  unfold f_X8_shares at hF
  refine lv_aload_n hx hb dX8_shares_0 rfl (lv_at hl 1 rfl) ?_
  refine lv_bipush (v := (21 : Int32)) hx hb dX8_shares_1 (by decide) ?_
  refine lv_iload_n hx hb dX8_shares_3 rfl (lv_at hl 3 rfl) ?_
  refine lv_iadd hx hb dX8_shares_4 ?_
  obtain ⟨o1, hF⟩ := op_ob hF
  refine va_iald hx hb hK hP 2 0 rfl rfl (okb_in o1) dX8_shares_5 ?_
  refine lv_istore (lv' := [(4, .int (o ((21 : Int32) + j).toNatClampNeg)), (0, .ref ax), (1, .ref a_of), (2, .int i), (3, .int j)]) hx hb dX8_shares_6 hl (by decide) rfl (fun ls hl => ?_)
  refine lv_iload_n hx hb dX8_shares_8 rfl (lv_at hl 3 rfl) ?_
  refine lv_iload_n hx hb dX8_shares_9 rfl (lv_at hl 4 rfl) ?_
  refine lv_icmp_eq (tgt := 60) hx hb dX8_shares_10 (by decide) (fun c2 => ?_) (fun c2 => ?_)
  · have hF := op_pos c2 hF
    refine lv_iconst (v := (0 : Int32)) hx hb dX8_shares_60 (by decide) ?_
    cases hF
    rw [hQ]
    exact xrz hC rfl hP hS dX8_shares_61
  · have hF := op_neg c2 hF
    refine lv_aload_n hx hb dX8_shares_13 rfl (lv_at hl 2 rfl) ?_
    refine lv_bipush (v := (21 : Int32)) hx hb dX8_shares_14 (by decide) ?_
    refine lv_iload_n hx hb dX8_shares_16 rfl (lv_at hl 3 rfl) ?_
    refine lv_iadd hx hb dX8_shares_17 ?_
    obtain ⟨o3, hF⟩ := op_ob hF
    refine va_iald hx hb hK hP 2 0 rfl rfl (okb_in o3) dX8_shares_18 ?_
    refine lv_bipush (v := (-4 : Int32)) hx hb dX8_shares_19 (by decide) ?_
    refine lv_icmp_ne (tgt := 60) hx hb dX8_shares_21 (by decide) (fun c4 => ?_) (fun c4 => ?_)
    · have hF := op_neg c4 hF
      refine lv_iconst (v := (0 : Int32)) hx hb dX8_shares_60 (by decide) ?_
      cases hF
      rw [hQ]
      exact xrz hC rfl hP hS dX8_shares_61
    · have hF := op_pos c4 hF
      refine lv_iload hx hb dX8_shares_24 (lv_at hl 0 rfl) ?_
      refine lv_bipush (v := (-4 : Int32)) hx hb dX8_shares_26 (by decide) ?_
      refine lv_icmp_eq (tgt := 60) hx hb dX8_shares_28 (by decide) (fun c5 => ?_) (fun c5 => ?_)
      · have hF := op_pos c5 hF
        refine lv_iconst (v := (0 : Int32)) hx hb dX8_shares_60 (by decide) ?_
        cases hF
        rw [hQ]
        exact xrz hC rfl hP hS dX8_shares_61
      · have hF := op_neg c5 hF
        refine lv_aload_n hx hb dX8_shares_31 rfl (lv_at hl 2 rfl) ?_
        refine lv_bipush (v := (16 : Int32)) hx hb dX8_shares_32 (by decide) ?_
        refine lv_iload_n hx hb dX8_shares_34 rfl (lv_at hl 3 rfl) ?_
        refine lv_iadd hx hb dX8_shares_35 ?_
        obtain ⟨o6, hF⟩ := op_ob hF
        refine va_iald hx hb hK hP 2 0 rfl rfl (okb_in o6) dX8_shares_36 ?_
        refine lv_aload_n hx hb dX8_shares_37 rfl (lv_at hl 2 rfl) ?_
        refine lv_bipush (v := (16 : Int32)) hx hb dX8_shares_38 (by decide) ?_
        refine lv_iload_n hx hb dX8_shares_40 rfl (lv_at hl 4 rfl) ?_
        refine lv_iadd hx hb dX8_shares_41 ?_
        obtain ⟨o7, hF⟩ := op_ob hF
        refine va_iald hx hb hK hP 2 0 rfl rfl (okb_in o7) dX8_shares_42 ?_
        refine lv_icmp_ne (tgt := 60) hx hb dX8_shares_43 (by decide) (fun c8 => ?_) (fun c8 => ?_)
        · have hF := op_neg c8 hF
          refine lv_iconst (v := (0 : Int32)) hx hb dX8_shares_60 (by decide) ?_
          cases hF
          rw [hQ]
          exact xrz hC rfl hP hS dX8_shares_61
        · have hF := op_pos c8 hF
          refine lv_aload_n hx hb dX8_shares_46 rfl (lv_at hl 1 rfl) ?_
          refine lv_aload_n hx hb dX8_shares_47 rfl (lv_at hl 2 rfl) ?_
          refine lv_iload hx hb dX8_shares_48 (lv_at hl 0 rfl) ?_
          obtain ⟨r9, hb10, hF⟩ := op_bind hF
          refine xVr (As := [.ref a_of, .int (o ((21 : Int32) + j).toNatClampNeg)]) (rest := []) hC hP hD hS [0, 1, 2] (c_X8_under l D cI cC cM ax a_law a_of a_text a_told a_readLaw a_readNow a_now a_tried a_undos a_seenHour a_seenAt a_parts a_partsThen a_kept m_letterMany m_readAt m_undoMany m_undoAt m_seenMany m_keptMany m_law o (o ((21 : Int32) + j).toNatClampNeg) r9 hb10) (cwV 2 hts gX8_shares_X8_under rfl rfl rfl ⟨rfl, pd_X8_under⟩ ⟨Nat.le_of_ble_eq_true rfl, Nat.le_of_ble_eq_true rfl⟩) rfl rfl 0 8 rfl rfl rfl rfl hl.1 rfl (Nat.le_of_ble_eq_true rfl) dX8_shares_50 ⟨Nat.zero_le _, Nat.zero_le _⟩ (fun H locs hP hS => ?_)
          obtain ⟨r11, hb12, hF⟩ := op_bind hF
          refine xSr (As := [.int r9]) (rest := []) hC hP hD hS [] (c_X8_bits l D cI cC cM r9 r11 hb12) (va_cwS 1 hts gX8_shares_X8_bits rfl rfl rfl pd_X8_bits ⟨Nat.le_of_ble_eq_true rfl, Nat.le_of_ble_eq_true rfl⟩) rfl rfl rfl hl.1 rfl (Nat.le_of_ble_eq_true rfl) dX8_shares_53 ⟨Nat.zero_le _, Nat.zero_le _⟩ (fun H locs hP hS => ?_)
          refine lv_iconst (v := (1 : Int32)) hx hb dX8_shares_56 (by decide) ?_
          refine lv_icmp_le (tgt := 62) hx hb dX8_shares_57 (by decide) (fun c13 => ?_) (fun c13 => ?_)
          · have hF := op_pos c13 hF
            refine lv_aload_n hx hb dX8_shares_62 rfl (lv_at hl 2 rfl) ?_
            refine lv_bipush (v := (21 : Int32)) hx hb dX8_shares_63 (by decide) ?_
            refine lv_iload_n hx hb dX8_shares_65 rfl (lv_at hl 3 rfl) ?_
            refine lv_iadd hx hb dX8_shares_66 ?_
            refine lv_iload hx hb dX8_shares_67 (lv_at hl 0 rfl) ?_
            refine va_iast hx hb hK hP hD hS 2 0 rfl rfl (okb_in o3) dX8_shares_69 (fun H locs hP hD hS => ?_)
            have hP : va_P D vwCl [(ax, .inr (8, [.int m_letterMany, .ref a_text, .int m_readAt, .ref a_told, .ref a_readLaw, .ref a_readNow, .ref a_law, .ref a_now, .ref a_tried, .int m_undoMany, .int m_undoAt, .ref a_undos, .int m_seenMany, .ref a_seenHour, .ref a_seenAt, .ref a_parts, .ref a_partsThen, .int m_keptMany, .ref a_kept])), (a_law, .inl (cI, 22, .inl m_law)), (a_of, .inl (cI, 26, .inl (upd o ((21 : Int32) + i).toNatClampNeg (o ((21 : Int32) + j).toNatClampNeg))))] H := hP
            have hD : va_D A [(ax, .inr (8, [.int m_letterMany, .ref a_text, .int m_readAt, .ref a_told, .ref a_readLaw, .ref a_readNow, .ref a_law, .ref a_now, .ref a_tried, .int m_undoMany, .int m_undoAt, .ref a_undos, .int m_seenMany, .ref a_seenHour, .ref a_seenAt, .ref a_parts, .ref a_partsThen, .int m_keptMany, .ref a_kept])), (a_law, .inl (cI, 22, .inl m_law)), (a_of, .inl (cI, 26, .inl (upd o ((21 : Int32) + i).toNatClampNeg (o ((21 : Int32) + j).toNatClampNeg))))] := hD
            refine lv_aload_n hx hb dX8_shares_70 rfl (lv_at hl 2 rfl) ?_
            refine lv_iconst (v := (3 : Int32)) hx hb dX8_shares_71 (by decide) ?_
            refine lv_dup2_11 hx hb dX8_shares_72 rfl rfl ?_
            refine va_iald hx hb hK hP 2 0 rfl rfl (okb_in (by decide)) dX8_shares_73 ?_
            refine lv_iconst (v := (1 : Int32)) hx hb dX8_shares_74 (by decide) ?_
            refine lv_iload_n hx hb dX8_shares_75 rfl (lv_at hl 3 rfl) ?_
            refine lv_ishl hx hb dX8_shares_76 ?_
            refine lv_iconst (v := (-1 : Int32)) hx hb dX8_shares_77 (by decide) ?_
            refine lv_ixor hx hb dX8_shares_78 ?_
            refine lv_iand hx hb dX8_shares_79 ?_
            refine va_iast hx hb hK hP hD hS 2 0 rfl rfl (okb_in (by decide)) dX8_shares_80 (fun H locs hP hD hS => ?_)
            have hP : va_P D vwCl [(ax, .inr (8, [.int m_letterMany, .ref a_text, .int m_readAt, .ref a_told, .ref a_readLaw, .ref a_readNow, .ref a_law, .ref a_now, .ref a_tried, .int m_undoMany, .int m_undoAt, .ref a_undos, .int m_seenMany, .ref a_seenHour, .ref a_seenAt, .ref a_parts, .ref a_partsThen, .int m_keptMany, .ref a_kept])), (a_law, .inl (cI, 22, .inl m_law)), (a_of, .inl (cI, 26, .inl (upd (upd o ((21 : Int32) + i).toNatClampNeg (o ((21 : Int32) + j).toNatClampNeg)) (3 : Int32).toNatClampNeg (((upd o ((21 : Int32) + i).toNatClampNeg (o ((21 : Int32) + j).toNatClampNeg)) (3 : Int32).toNatClampNeg) &&& (((1 : Int32) <<< (i &&& 31)) ^^^ (-1 : Int32))))))] H := hP
            have hD : va_D A [(ax, .inr (8, [.int m_letterMany, .ref a_text, .int m_readAt, .ref a_told, .ref a_readLaw, .ref a_readNow, .ref a_law, .ref a_now, .ref a_tried, .int m_undoMany, .int m_undoAt, .ref a_undos, .int m_seenMany, .ref a_seenHour, .ref a_seenAt, .ref a_parts, .ref a_partsThen, .int m_keptMany, .ref a_kept])), (a_law, .inl (cI, 22, .inl m_law)), (a_of, .inl (cI, 26, .inl (upd (upd o ((21 : Int32) + i).toNatClampNeg (o ((21 : Int32) + j).toNatClampNeg)) (3 : Int32).toNatClampNeg (((upd o ((21 : Int32) + i).toNatClampNeg (o ((21 : Int32) + j).toNatClampNeg)) (3 : Int32).toNatClampNeg) &&& (((1 : Int32) <<< (i &&& 31)) ^^^ (-1 : Int32))))))] := hD
            refine lv_iconst (v := (1 : Int32)) hx hb dX8_shares_81 (by decide) ?_
            cases hF
            rw [hQ]
            exact xrz hC rfl hP hS dX8_shares_82
          · have hF := op_neg c13 hF
            refine lv_iconst (v := (0 : Int32)) hx hb dX8_shares_60 (by decide) ?_
            cases hF
            rw [hQ]
            exact xrz hC rfl hP hS dX8_shares_61

def f_X8_gives (m_law : (Nat → Int32)) (o : (Nat → Int32)) (i : Int32) : Option (Int32 × (Nat → Int32)) := (if okb ((21 : Int32) + i) 26 = true then (if (o ((21 : Int32) + i).toNatClampNeg) = (-4 : Int32) then (some ((0 : Int32), o)) else (if okb ((16 : Int32) + i) 26 = true then (if (o ((16 : Int32) + i).toNatClampNeg) = 0 then (some ((1 : Int32), (upd o ((21 : Int32) + i).toNatClampNeg (-4 : Int32)))) else (Option.bind (f_X8_under m_law o (o ((21 : Int32) + i).toNatClampNeg)) fun r5 => (Option.bind (f_X8_bits r5) fun r7 => (if r7 = (1 : Int32) then (some ((0 : Int32), o)) else (some ((1 : Int32), (upd o ((21 : Int32) + i).toNatClampNeg (-4 : Int32)))))))) else none)) else none)

def rm_X8_gives : Room := { frames := 1, cells := 0, slots := 0, locals := 24 }

theorem pd_X8_gives : yX8_gives.cls ≠ "java/lang/invoke/MethodHandle" ∧ yX8_gives.cls ≠ "java/lang/invoke/VarHandle" ∧ (parseMethodDescriptor yX8_gives.desc).map (fun d => d.parameters.length) = some 2 := by decide +kernel

set_option maxHeartbeats 4000000 in
set_option maxRecDepth 100000 in
theorem c_X8_gives (l : Launch) (D : va_G) (cI cC cM : ClassId) (ax a_law a_of a_text a_told a_readLaw a_readNow a_now a_tried a_undos a_seenHour a_seenAt a_parts a_partsThen a_kept : Nat) (m_letterMany : Int32) (m_readAt : Int32) (m_undoMany : Int32) (m_undoAt : Int32) (m_seenMany : Int32) (m_keptMany : Int32) (m_law : (Nat → Int32)) (o : (Nat → Int32)) (i : Int32) (rr : Int32) (o' : (Nat → Int32)) (hF : f_X8_gives m_law o i = some (rr, o')) : CI l D cI cC cM yX8_gives wsX8_gives rm_X8_gives [.ref ax, .ref a_of, .int i] [(ax, .inr (8, [.int m_letterMany, .ref a_text, .int m_readAt, .ref a_told, .ref a_readLaw, .ref a_readNow, .ref a_law, .ref a_now, .ref a_tried, .int m_undoMany, .int m_undoAt, .ref a_undos, .int m_seenMany, .ref a_seenHour, .ref a_seenAt, .ref a_parts, .ref a_partsThen, .int m_keptMany, .ref a_kept])), (a_law, .inl (cI, 22, .inl m_law)), (a_of, .inl (cI, 26, .inl o))] [(ax, .inr (8, [.int m_letterMany, .ref a_text, .int m_readAt, .ref a_told, .ref a_readLaw, .ref a_readNow, .ref a_law, .ref a_now, .ref a_tried, .int m_undoMany, .int m_undoAt, .ref a_undos, .int m_seenMany, .ref a_seenHour, .ref a_seenAt, .ref a_parts, .ref a_partsThen, .int m_keptMany, .ref a_kept])), (a_law, .inl (cI, 22, .inl m_law)), (a_of, .inl (cI, 26, .inl o'))] rr := by
  refine CI.of (cc := cX8_gives) (nL := 4) (ret := (some .boolean)) (by decide) rfl (Nat.le_of_ble_eq_true rfl) ?_
  intro p e s m args below meth c A hC hP hD hS ls hl
  obtain ⟨hx, hb, hml, hown, hts, hr, hlk, hG, hA⟩ := id hC
  have hown : s.vm.findClass RX8 = some m.cls := hown
  have hK := hG.1
  have hl : lv_has ls 4 [(0, .ref ax), (1, .ref a_of), (2, .int i)] := hl
  obtain ⟨Q, hQ⟩ : ∃ Q, Q = MQ below (QI D [(ax, .inr (8, [.int m_letterMany, .ref a_text, .int m_readAt, .ref a_told, .ref a_readLaw, .ref a_readNow, .ref a_law, .ref a_now, .ref a_tried, .int m_undoMany, .int m_undoAt, .ref a_undos, .int m_seenMany, .ref a_seenHour, .ref a_seenAt, .ref a_parts, .ref a_partsThen, .int m_keptMany, .ref a_kept])), (a_law, .inl (cI, 22, .inl m_law)), (a_of, .inl (cI, 26, .inl o'))] rr A) args s 0 0 A := ⟨_, rfl⟩
  rw [← hQ]
  unfold f_X8_gives at hF
  refine lv_aload_n hx hb dX8_gives_0 rfl (lv_at hl 1 rfl) ?_
  refine lv_bipush (v := (21 : Int32)) hx hb dX8_gives_1 (by decide) ?_
  refine lv_iload_n hx hb dX8_gives_3 rfl (lv_at hl 2 rfl) ?_
  refine lv_iadd hx hb dX8_gives_4 ?_
  obtain ⟨o1, hF⟩ := op_ob hF
  refine va_iald hx hb hK hP 2 0 rfl rfl (okb_in o1) dX8_gives_5 ?_
  refine lv_istore_n (lv' := [(3, .int (o ((21 : Int32) + i).toNatClampNeg)), (0, .ref ax), (1, .ref a_of), (2, .int i)]) hx hb dX8_gives_6 rfl hl (by decide) rfl (fun ls hl => ?_)
  refine lv_iload_n hx hb dX8_gives_7 rfl (lv_at hl 0 rfl) ?_
  refine lv_bipush (v := (-4 : Int32)) hx hb dX8_gives_8 (by decide) ?_
  refine lv_icmp_eq (tgt := 35) hx hb dX8_gives_10 (by decide) (fun c2 => ?_) (fun c2 => ?_)
  · have hF := op_pos c2 hF
    refine lv_iconst (v := (0 : Int32)) hx hb dX8_gives_35 (by decide) ?_
    cases hF
    rw [hQ]
    exact xrz hC rfl hP hS dX8_gives_36
  · have hF := op_neg c2 hF
    refine lv_aload_n hx hb dX8_gives_13 rfl (lv_at hl 2 rfl) ?_
    refine lv_bipush (v := (16 : Int32)) hx hb dX8_gives_14 (by decide) ?_
    refine lv_iload_n hx hb dX8_gives_16 rfl (lv_at hl 3 rfl) ?_
    refine lv_iadd hx hb dX8_gives_17 ?_
    obtain ⟨o3, hF⟩ := op_ob hF
    refine va_iald hx hb hK hP 2 0 rfl rfl (okb_in o3) dX8_gives_18 ?_
    refine lv_if_eq (tgt := 37) hx hb dX8_gives_19 (by decide) (fun c4 => ?_) (fun c4 => ?_)
    · have hF := op_pos c4 hF
      refine lv_aload_n hx hb dX8_gives_37 rfl (lv_at hl 2 rfl) ?_
      refine lv_bipush (v := (21 : Int32)) hx hb dX8_gives_38 (by decide) ?_
      refine lv_iload_n hx hb dX8_gives_40 rfl (lv_at hl 3 rfl) ?_
      refine lv_iadd hx hb dX8_gives_41 ?_
      refine lv_bipush (v := (-4 : Int32)) hx hb dX8_gives_42 (by decide) ?_
      refine va_iast hx hb hK hP hD hS 2 0 rfl rfl (okb_in o1) dX8_gives_44 (fun H locs hP hD hS => ?_)
      have hP : va_P D vwCl [(ax, .inr (8, [.int m_letterMany, .ref a_text, .int m_readAt, .ref a_told, .ref a_readLaw, .ref a_readNow, .ref a_law, .ref a_now, .ref a_tried, .int m_undoMany, .int m_undoAt, .ref a_undos, .int m_seenMany, .ref a_seenHour, .ref a_seenAt, .ref a_parts, .ref a_partsThen, .int m_keptMany, .ref a_kept])), (a_law, .inl (cI, 22, .inl m_law)), (a_of, .inl (cI, 26, .inl (upd o ((21 : Int32) + i).toNatClampNeg (-4 : Int32))))] H := hP
      have hD : va_D A [(ax, .inr (8, [.int m_letterMany, .ref a_text, .int m_readAt, .ref a_told, .ref a_readLaw, .ref a_readNow, .ref a_law, .ref a_now, .ref a_tried, .int m_undoMany, .int m_undoAt, .ref a_undos, .int m_seenMany, .ref a_seenHour, .ref a_seenAt, .ref a_parts, .ref a_partsThen, .int m_keptMany, .ref a_kept])), (a_law, .inl (cI, 22, .inl m_law)), (a_of, .inl (cI, 26, .inl (upd o ((21 : Int32) + i).toNatClampNeg (-4 : Int32))))] := hD
      refine lv_iconst (v := (1 : Int32)) hx hb dX8_gives_45 (by decide) ?_
      cases hF
      rw [hQ]
      exact xrz hC rfl hP hS dX8_gives_46
    · have hF := op_neg c4 hF
      refine lv_aload_n hx hb dX8_gives_22 rfl (lv_at hl 1 rfl) ?_
      refine lv_aload_n hx hb dX8_gives_23 rfl (lv_at hl 2 rfl) ?_
      refine lv_iload_n hx hb dX8_gives_24 rfl (lv_at hl 0 rfl) ?_
      obtain ⟨r5, hb6, hF⟩ := op_bind hF
      refine xVr (As := [.ref a_of, .int (o ((21 : Int32) + i).toNatClampNeg)]) (rest := []) hC hP hD hS [0, 1, 2] (c_X8_under l D cI cC cM ax a_law a_of a_text a_told a_readLaw a_readNow a_now a_tried a_undos a_seenHour a_seenAt a_parts a_partsThen a_kept m_letterMany m_readAt m_undoMany m_undoAt m_seenMany m_keptMany m_law o (o ((21 : Int32) + i).toNatClampNeg) r5 hb6) (cwV 2 hts gX8_gives_X8_under rfl rfl rfl ⟨rfl, pd_X8_under⟩ ⟨Nat.le_of_ble_eq_true rfl, Nat.le_of_ble_eq_true rfl⟩) rfl rfl 0 8 rfl rfl rfl rfl hl.1 rfl (Nat.le_of_ble_eq_true rfl) dX8_gives_25 ⟨Nat.zero_le _, Nat.zero_le _⟩ (fun H locs hP hS => ?_)
      obtain ⟨r7, hb8, hF⟩ := op_bind hF
      refine xSr (As := [.int r5]) (rest := []) hC hP hD hS [] (c_X8_bits l D cI cC cM r5 r7 hb8) (va_cwS 1 hts gX8_gives_X8_bits rfl rfl rfl pd_X8_bits ⟨Nat.le_of_ble_eq_true rfl, Nat.le_of_ble_eq_true rfl⟩) rfl rfl rfl hl.1 rfl (Nat.le_of_ble_eq_true rfl) dX8_gives_28 ⟨Nat.zero_le _, Nat.zero_le _⟩ (fun H locs hP hS => ?_)
      refine lv_iconst (v := (1 : Int32)) hx hb dX8_gives_31 (by decide) ?_
      refine lv_icmp_ne (tgt := 37) hx hb dX8_gives_32 (by decide) (fun c9 => ?_) (fun c9 => ?_)
      · have hF := op_neg c9 hF
        refine lv_aload_n hx hb dX8_gives_37 rfl (lv_at hl 2 rfl) ?_
        refine lv_bipush (v := (21 : Int32)) hx hb dX8_gives_38 (by decide) ?_
        refine lv_iload_n hx hb dX8_gives_40 rfl (lv_at hl 3 rfl) ?_
        refine lv_iadd hx hb dX8_gives_41 ?_
        refine lv_bipush (v := (-4 : Int32)) hx hb dX8_gives_42 (by decide) ?_
        refine va_iast hx hb hK hP hD hS 2 0 rfl rfl (okb_in o1) dX8_gives_44 (fun H locs hP hD hS => ?_)
        have hP : va_P D vwCl [(ax, .inr (8, [.int m_letterMany, .ref a_text, .int m_readAt, .ref a_told, .ref a_readLaw, .ref a_readNow, .ref a_law, .ref a_now, .ref a_tried, .int m_undoMany, .int m_undoAt, .ref a_undos, .int m_seenMany, .ref a_seenHour, .ref a_seenAt, .ref a_parts, .ref a_partsThen, .int m_keptMany, .ref a_kept])), (a_law, .inl (cI, 22, .inl m_law)), (a_of, .inl (cI, 26, .inl (upd o ((21 : Int32) + i).toNatClampNeg (-4 : Int32))))] H := hP
        have hD : va_D A [(ax, .inr (8, [.int m_letterMany, .ref a_text, .int m_readAt, .ref a_told, .ref a_readLaw, .ref a_readNow, .ref a_law, .ref a_now, .ref a_tried, .int m_undoMany, .int m_undoAt, .ref a_undos, .int m_seenMany, .ref a_seenHour, .ref a_seenAt, .ref a_parts, .ref a_partsThen, .int m_keptMany, .ref a_kept])), (a_law, .inl (cI, 22, .inl m_law)), (a_of, .inl (cI, 26, .inl (upd o ((21 : Int32) + i).toNatClampNeg (-4 : Int32))))] := hD
        refine lv_iconst (v := (1 : Int32)) hx hb dX8_gives_45 (by decide) ?_
        cases hF
        rw [hQ]
        exact xrz hC rfl hP hS dX8_gives_46
      · have hF := op_pos c9 hF
        refine lv_iconst (v := (0 : Int32)) hx hb dX8_gives_35 (by decide) ?_
        cases hF
        rw [hQ]
        exact xrz hC rfl hP hS dX8_gives_36

def f_X8_walks_L58 (m_law : (Nat → Int32)) (i : Int32) (o : (Nat → Int32)) (k58 : Int32 → (Nat → Int32) → Option (Int32 × (Nat → Int32))) : Nat → Int32 → (Nat → Int32) → Option (Int32 × (Nat → Int32))
  | 0, _, _ => none
  | nf58 + 1, v10, o_11 => (if (m_law (2 : Int32).toNatClampNeg) ≤ v10 then (k58 v10 o_11) else (if v10 = i then (if okb ((16 : Int32) + v10) 26 = true then (f_X8_walks_L58 m_law i o k58 nf58 (v10 + (1 : Int32)) (upd (upd o_11 ((16 : Int32) + v10).toNatClampNeg ((o ((16 : Int32) + i).toNatClampNeg) + (-1 : Int32))) (3 : Int32).toNatClampNeg (((upd o_11 ((16 : Int32) + v10).toNatClampNeg ((o ((16 : Int32) + i).toNatClampNeg) + (-1 : Int32))) (3 : Int32).toNatClampNeg) &&& (((1 : Int32) <<< (v10 &&& 31)) ^^^ (-1 : Int32))))) else none) else (if (o ((21 : Int32) + i).toNatClampNeg) = (-4 : Int32) then (f_X8_walks_L58 m_law i o k58 nf58 (v10 + (1 : Int32)) o_11) else (if okb ((21 : Int32) + v10) 26 = true then (if (o_11 ((21 : Int32) + v10).toNatClampNeg) = (o ((21 : Int32) + i).toNatClampNeg) then (if okb ((16 : Int32) + v10) 26 = true then (f_X8_walks_L58 m_law i o k58 nf58 (v10 + (1 : Int32)) (upd (upd o_11 ((16 : Int32) + v10).toNatClampNeg ((o ((16 : Int32) + i).toNatClampNeg) + (-1 : Int32))) (3 : Int32).toNatClampNeg (((upd o_11 ((16 : Int32) + v10).toNatClampNeg ((o ((16 : Int32) + i).toNatClampNeg) + (-1 : Int32))) (3 : Int32).toNatClampNeg) &&& (((1 : Int32) <<< (v10 &&& 31)) ^^^ (-1 : Int32))))) else none) else (f_X8_walks_L58 m_law i o k58 nf58 (v10 + (1 : Int32)) o_11)) else none))))
theorem f_X8_walks_L58_0 (m_law : (Nat → Int32)) (i : Int32) (o : (Nat → Int32)) (k58 : Int32 → (Nat → Int32) → Option (Int32 × (Nat → Int32))) (v10 : Int32) (o_11 : (Nat → Int32)) : f_X8_walks_L58 m_law i o k58 0 v10 o_11 = none := rfl
theorem f_X8_walks_L58_s (m_law : (Nat → Int32)) (i : Int32) (o : (Nat → Int32)) (k58 : Int32 → (Nat → Int32) → Option (Int32 × (Nat → Int32))) (nf58 : Nat) (v10 : Int32) (o_11 : (Nat → Int32)) : f_X8_walks_L58 m_law i o k58 (nf58 + 1) v10 o_11 = (if (m_law (2 : Int32).toNatClampNeg) ≤ v10 then (k58 v10 o_11) else (if v10 = i then (if okb ((16 : Int32) + v10) 26 = true then (f_X8_walks_L58 m_law i o k58 nf58 (v10 + (1 : Int32)) (upd (upd o_11 ((16 : Int32) + v10).toNatClampNeg ((o ((16 : Int32) + i).toNatClampNeg) + (-1 : Int32))) (3 : Int32).toNatClampNeg (((upd o_11 ((16 : Int32) + v10).toNatClampNeg ((o ((16 : Int32) + i).toNatClampNeg) + (-1 : Int32))) (3 : Int32).toNatClampNeg) &&& (((1 : Int32) <<< (v10 &&& 31)) ^^^ (-1 : Int32))))) else none) else (if (o ((21 : Int32) + i).toNatClampNeg) = (-4 : Int32) then (f_X8_walks_L58 m_law i o k58 nf58 (v10 + (1 : Int32)) o_11) else (if okb ((21 : Int32) + v10) 26 = true then (if (o_11 ((21 : Int32) + v10).toNatClampNeg) = (o ((21 : Int32) + i).toNatClampNeg) then (if okb ((16 : Int32) + v10) 26 = true then (f_X8_walks_L58 m_law i o k58 nf58 (v10 + (1 : Int32)) (upd (upd o_11 ((16 : Int32) + v10).toNatClampNeg ((o ((16 : Int32) + i).toNatClampNeg) + (-1 : Int32))) (3 : Int32).toNatClampNeg (((upd o_11 ((16 : Int32) + v10).toNatClampNeg ((o ((16 : Int32) + i).toNatClampNeg) + (-1 : Int32))) (3 : Int32).toNatClampNeg) &&& (((1 : Int32) <<< (v10 &&& 31)) ^^^ (-1 : Int32))))) else none) else (f_X8_walks_L58 m_law i o k58 nf58 (v10 + (1 : Int32)) o_11)) else none)))) := rfl

def f_X8_walks_L58_2 (m_law : (Nat → Int32)) (i : Int32) (o : (Nat → Int32)) (k58 : Int32 → (Nat → Int32) → Option (Int32 × (Nat → Int32))) : Nat → Int32 → (Nat → Int32) → Option (Int32 × (Nat → Int32))
  | 0, _, _ => none
  | nf58 + 1, v26, o_27 => (if (m_law (2 : Int32).toNatClampNeg) ≤ v26 then (k58 v26 o_27) else (if v26 = i then (if okb ((16 : Int32) + v26) 26 = true then (f_X8_walks_L58_2 m_law i o k58 nf58 (v26 + (1 : Int32)) (upd (upd o_27 ((16 : Int32) + v26).toNatClampNeg ((o ((16 : Int32) + i).toNatClampNeg) + (1 : Int32))) (3 : Int32).toNatClampNeg (((upd o_27 ((16 : Int32) + v26).toNatClampNeg ((o ((16 : Int32) + i).toNatClampNeg) + (1 : Int32))) (3 : Int32).toNatClampNeg) &&& (((1 : Int32) <<< (v26 &&& 31)) ^^^ (-1 : Int32))))) else none) else (if (o ((21 : Int32) + i).toNatClampNeg) = (-4 : Int32) then (f_X8_walks_L58_2 m_law i o k58 nf58 (v26 + (1 : Int32)) o_27) else (if okb ((21 : Int32) + v26) 26 = true then (if (o_27 ((21 : Int32) + v26).toNatClampNeg) = (o ((21 : Int32) + i).toNatClampNeg) then (if okb ((16 : Int32) + v26) 26 = true then (f_X8_walks_L58_2 m_law i o k58 nf58 (v26 + (1 : Int32)) (upd (upd o_27 ((16 : Int32) + v26).toNatClampNeg ((o ((16 : Int32) + i).toNatClampNeg) + (1 : Int32))) (3 : Int32).toNatClampNeg (((upd o_27 ((16 : Int32) + v26).toNatClampNeg ((o ((16 : Int32) + i).toNatClampNeg) + (1 : Int32))) (3 : Int32).toNatClampNeg) &&& (((1 : Int32) <<< (v26 &&& 31)) ^^^ (-1 : Int32))))) else none) else (f_X8_walks_L58_2 m_law i o k58 nf58 (v26 + (1 : Int32)) o_27)) else none))))
theorem f_X8_walks_L58_2_0 (m_law : (Nat → Int32)) (i : Int32) (o : (Nat → Int32)) (k58 : Int32 → (Nat → Int32) → Option (Int32 × (Nat → Int32))) (v26 : Int32) (o_27 : (Nat → Int32)) : f_X8_walks_L58_2 m_law i o k58 0 v26 o_27 = none := rfl
theorem f_X8_walks_L58_2_s (m_law : (Nat → Int32)) (i : Int32) (o : (Nat → Int32)) (k58 : Int32 → (Nat → Int32) → Option (Int32 × (Nat → Int32))) (nf58 : Nat) (v26 : Int32) (o_27 : (Nat → Int32)) : f_X8_walks_L58_2 m_law i o k58 (nf58 + 1) v26 o_27 = (if (m_law (2 : Int32).toNatClampNeg) ≤ v26 then (k58 v26 o_27) else (if v26 = i then (if okb ((16 : Int32) + v26) 26 = true then (f_X8_walks_L58_2 m_law i o k58 nf58 (v26 + (1 : Int32)) (upd (upd o_27 ((16 : Int32) + v26).toNatClampNeg ((o ((16 : Int32) + i).toNatClampNeg) + (1 : Int32))) (3 : Int32).toNatClampNeg (((upd o_27 ((16 : Int32) + v26).toNatClampNeg ((o ((16 : Int32) + i).toNatClampNeg) + (1 : Int32))) (3 : Int32).toNatClampNeg) &&& (((1 : Int32) <<< (v26 &&& 31)) ^^^ (-1 : Int32))))) else none) else (if (o ((21 : Int32) + i).toNatClampNeg) = (-4 : Int32) then (f_X8_walks_L58_2 m_law i o k58 nf58 (v26 + (1 : Int32)) o_27) else (if okb ((21 : Int32) + v26) 26 = true then (if (o_27 ((21 : Int32) + v26).toNatClampNeg) = (o ((21 : Int32) + i).toNatClampNeg) then (if okb ((16 : Int32) + v26) 26 = true then (f_X8_walks_L58_2 m_law i o k58 nf58 (v26 + (1 : Int32)) (upd (upd o_27 ((16 : Int32) + v26).toNatClampNeg ((o ((16 : Int32) + i).toNatClampNeg) + (1 : Int32))) (3 : Int32).toNatClampNeg (((upd o_27 ((16 : Int32) + v26).toNatClampNeg ((o ((16 : Int32) + i).toNatClampNeg) + (1 : Int32))) (3 : Int32).toNatClampNeg) &&& (((1 : Int32) <<< (v26 &&& 31)) ^^^ (-1 : Int32))))) else none) else (f_X8_walks_L58_2 m_law i o k58 nf58 (v26 + (1 : Int32)) o_27)) else none)))) := rfl

def f_X8_walks (m_law : (Nat → Int32)) (o : (Nat → Int32)) (i : Int32) (w : Int32) : Option (Int32 × (Nat → Int32)) := (if okb ((16 : Int32) + i) 26 = true then (if w = 0 then (Option.bind (f_X8_has (o (3 : Int32).toNatClampNeg) i) fun r19 => (if r19 = 0 then (Option.bind (f_X8_in ((o ((16 : Int32) + i).toNatClampNeg) + (1 : Int32)) (0 : Int32) ((m_law (0 : Int32).toNatClampNeg) - (1 : Int32))) fun r22 => (if r22 = 0 then (some ((0 : Int32), o)) else (if okb ((21 : Int32) + i) 26 = true then (f_X8_walks_L58_2 m_law i o (fun (v26 : Int32) (o_27 : (Nat → Int32)) => (some ((1 : Int32), o_27))) 20000 (0 : Int32) o) else none))) else (some ((0 : Int32), o)))) else (Option.bind (f_X8_has (o (3 : Int32).toNatClampNeg) i) fun r3 => (if r3 = 0 then (Option.bind (f_X8_in ((o ((16 : Int32) + i).toNatClampNeg) + (-1 : Int32)) (0 : Int32) ((m_law (0 : Int32).toNatClampNeg) - (1 : Int32))) fun r6 => (if r6 = 0 then (some ((0 : Int32), o)) else (if okb ((21 : Int32) + i) 26 = true then (f_X8_walks_L58 m_law i o (fun (v10 : Int32) (o_11 : (Nat → Int32)) => (some ((1 : Int32), o_11))) 20000 (0 : Int32) o) else none))) else (some ((0 : Int32), o))))) else none)

def rm_X8_walks : Room := { frames := 1, cells := 0, slots := 0, locals := 22 }

theorem pd_X8_walks : yX8_walks.cls ≠ "java/lang/invoke/MethodHandle" ∧ yX8_walks.cls ≠ "java/lang/invoke/VarHandle" ∧ (parseMethodDescriptor yX8_walks.desc).map (fun d => d.parameters.length) = some 3 := by decide +kernel

set_option maxHeartbeats 4000000 in
set_option maxRecDepth 100000 in
theorem c_X8_walks (l : Launch) (D : va_G) (cI cC cM : ClassId) (ax a_law a_of a_text a_told a_readLaw a_readNow a_now a_tried a_undos a_seenHour a_seenAt a_parts a_partsThen a_kept : Nat) (m_letterMany : Int32) (m_readAt : Int32) (m_undoMany : Int32) (m_undoAt : Int32) (m_seenMany : Int32) (m_keptMany : Int32) (m_law : (Nat → Int32)) (o : (Nat → Int32)) (i : Int32) (w : Int32) (rr : Int32) (o' : (Nat → Int32)) (hF : f_X8_walks m_law o i w = some (rr, o')) : CI l D cI cC cM yX8_walks wsX8_walks rm_X8_walks [.ref ax, .ref a_of, .int i, .int w] [(ax, .inr (8, [.int m_letterMany, .ref a_text, .int m_readAt, .ref a_told, .ref a_readLaw, .ref a_readNow, .ref a_law, .ref a_now, .ref a_tried, .int m_undoMany, .int m_undoAt, .ref a_undos, .int m_seenMany, .ref a_seenHour, .ref a_seenAt, .ref a_parts, .ref a_partsThen, .int m_keptMany, .ref a_kept])), (a_law, .inl (cI, 22, .inl m_law)), (a_of, .inl (cI, 26, .inl o))] [(ax, .inr (8, [.int m_letterMany, .ref a_text, .int m_readAt, .ref a_told, .ref a_readLaw, .ref a_readNow, .ref a_law, .ref a_now, .ref a_tried, .int m_undoMany, .int m_undoAt, .ref a_undos, .int m_seenMany, .ref a_seenHour, .ref a_seenAt, .ref a_parts, .ref a_partsThen, .int m_keptMany, .ref a_kept])), (a_law, .inl (cI, 22, .inl m_law)), (a_of, .inl (cI, 26, .inl o'))] rr := by
  refine CI.of (cc := cX8_walks) (nL := 7) (ret := (some .boolean)) (by decide) rfl (Nat.le_of_ble_eq_true rfl) ?_
  intro p e s m args below meth c A hC hP hD hS ls hl
  obtain ⟨hx, hb, hml, hown, hts, hr, hlk, hG, hA⟩ := id hC
  have hown : s.vm.findClass RX8 = some m.cls := hown
  have hK := hG.1
  have hl : lv_has ls 7 [(0, .ref ax), (1, .ref a_of), (2, .int i), (3, .int w)] := hl
  have k_f22 := hts (.fieldLink RX8 22 "ParasolHoursModel" "law" "[I") (List.mem_of_getElem? (i := 1) rfl)
  have iX8 : ∀ w ∈ wsX80, w ∈ wsX8_walks := by decide +kernel
  obtain ⟨Q, hQ⟩ : ∃ Q, Q = MQ below (QI D [(ax, .inr (8, [.int m_letterMany, .ref a_text, .int m_readAt, .ref a_told, .ref a_readLaw, .ref a_readNow, .ref a_law, .ref a_now, .ref a_tried, .int m_undoMany, .int m_undoAt, .ref a_undos, .int m_seenMany, .ref a_seenHour, .ref a_seenAt, .ref a_parts, .ref a_partsThen, .int m_keptMany, .ref a_kept])), (a_law, .inl (cI, 22, .inl m_law)), (a_of, .inl (cI, 26, .inl o'))] rr A) args s 0 0 A := ⟨_, rfl⟩
  rw [← hQ]
  unfold f_X8_walks at hF
  refine lv_aload_n hx hb dX8_walks_0 rfl (lv_at hl 1 rfl) ?_
  refine lv_bipush (v := (16 : Int32)) hx hb dX8_walks_1 (by decide) ?_
  refine lv_iload_n hx hb dX8_walks_3 rfl (lv_at hl 2 rfl) ?_
  refine lv_iadd hx hb dX8_walks_4 ?_
  obtain ⟨o1, hF⟩ := op_ob hF
  refine va_iald hx hb hK hP 2 0 rfl rfl (okb_in o1) dX8_walks_5 ?_
  refine lv_iload_n hx hb dX8_walks_6 rfl (lv_at hl 3 rfl) ?_
  refine lv_if_ne (tgt := 14) hx hb dX8_walks_7 (by decide) (fun c2 => ?_) (fun c2 => ?_)
  · have hF := op_neg c2 hF
    refine lv_iconst (v := (-1 : Int32)) hx hb dX8_walks_14 (by decide) ?_
    refine lv_iadd hx hb dX8_walks_15 ?_
    refine lv_istore (lv' := [(4, .int ((o ((16 : Int32) + i).toNatClampNeg) + (-1 : Int32))), (0, .ref ax), (1, .ref a_of), (2, .int i), (3, .int w)]) hx hb dX8_walks_16 hl (by decide) rfl (fun ls hl => ?_)
    refine lv_aload_n hx hb dX8_walks_18 rfl (lv_at hl 2 rfl) ?_
    refine lv_iconst (v := (3 : Int32)) hx hb dX8_walks_19 (by decide) ?_
    refine va_iald hx hb hK hP 2 0 rfl rfl (okb_in (by decide)) dX8_walks_20 ?_
    refine lv_iload_n hx hb dX8_walks_21 rfl (lv_at hl 3 rfl) ?_
    obtain ⟨r3, hb4, hF⟩ := op_bind hF
    refine xSr (As := [.int (o (3 : Int32).toNatClampNeg), .int i]) (rest := []) hC hP hD hS [] (c_X8_has l D cI cC cM (o (3 : Int32).toNatClampNeg) i r3 hb4) (va_cwS 2 hts gX8_walks_X8_has rfl rfl rfl pd_X8_has ⟨Nat.le_of_ble_eq_true rfl, Nat.le_of_ble_eq_true rfl⟩) rfl rfl rfl hl.1 rfl (Nat.le_of_ble_eq_true rfl) dX8_walks_22 ⟨Nat.zero_le _, Nat.zero_le _⟩ (fun H locs hP hS => ?_)
    refine lv_if_ne (tgt := 45) hx hb dX8_walks_25 (by decide) (fun c5 => ?_) (fun c5 => ?_)
    · have hF := op_neg c5 hF
      refine lv_iconst (v := (0 : Int32)) hx hb dX8_walks_45 (by decide) ?_
      cases hF
      rw [hQ]
      exact xrz hC rfl hP hS dX8_walks_46
    · have hF := op_pos c5 hF
      refine lv_iload hx hb dX8_walks_28 (lv_at hl 0 rfl) ?_
      refine lv_iconst (v := (0 : Int32)) hx hb dX8_walks_30 (by decide) ?_
      refine lv_aload_n hx hb dX8_walks_31 rfl (lv_at hl 1 rfl) ?_
      refine va_get (D := D) (ci := 8) (v := .ref a_law) (C := RX8) (T := TX8) (N := 19) hx hb hts iX8 hown hK hP 0 rfl rfl 6 (by decide) k_f22 (fun _ h9 => h9) rfl dX8_walks_32 ?_
      refine lv_iconst (v := (0 : Int32)) hx hb dX8_walks_35 (by decide) ?_
      refine va_iald hx hb hK hP 1 0 rfl rfl (okb_in (by decide)) dX8_walks_36 ?_
      refine lv_iconst (v := (1 : Int32)) hx hb dX8_walks_37 (by decide) ?_
      refine lv_isub hx hb dX8_walks_38 ?_
      obtain ⟨r6, hb7, hF⟩ := op_bind hF
      refine xSr (As := [.int ((o ((16 : Int32) + i).toNatClampNeg) + (-1 : Int32)), .int (0 : Int32), .int ((m_law (0 : Int32).toNatClampNeg) - (1 : Int32))]) (rest := []) hC hP hD hS [] (c_X8_in l D cI cC cM ((o ((16 : Int32) + i).toNatClampNeg) + (-1 : Int32)) (0 : Int32) ((m_law (0 : Int32).toNatClampNeg) - (1 : Int32)) r6 hb7) (va_cwS 3 hts gX8_walks_X8_in rfl rfl rfl pd_X8_in ⟨Nat.le_of_ble_eq_true rfl, Nat.le_of_ble_eq_true rfl⟩) rfl rfl rfl hl.1 rfl (Nat.le_of_ble_eq_true rfl) dX8_walks_39 ⟨Nat.zero_le _, Nat.zero_le _⟩ (fun H locs hP hS => ?_)
      refine lv_if_ne (tgt := 47) hx hb dX8_walks_42 (by decide) (fun c8 => ?_) (fun c8 => ?_)
      · have hF := op_neg c8 hF
        refine lv_aload_n hx hb dX8_walks_47 rfl (lv_at hl 2 rfl) ?_
        refine lv_bipush (v := (21 : Int32)) hx hb dX8_walks_48 (by decide) ?_
        refine lv_iload_n hx hb dX8_walks_50 rfl (lv_at hl 3 rfl) ?_
        refine lv_iadd hx hb dX8_walks_51 ?_
        obtain ⟨o9, hF⟩ := op_ob hF
        refine va_iald hx hb hK hP 2 0 rfl rfl (okb_in o9) dX8_walks_52 ?_
        refine lv_istore (lv' := [(5, .int (o ((21 : Int32) + i).toNatClampNeg)), (4, .int ((o ((16 : Int32) + i).toNatClampNeg) + (-1 : Int32))), (0, .ref ax), (1, .ref a_of), (2, .int i), (3, .int w)]) hx hb dX8_walks_53 hl (by decide) rfl (fun ls hl => ?_)
        refine lv_iconst (v := (0 : Int32)) hx hb dX8_walks_55 (by decide) ?_
        refine lv_istore (lv' := [(6, .int (0 : Int32)), (5, .int (o ((21 : Int32) + i).toNatClampNeg)), (4, .int ((o ((16 : Int32) + i).toNatClampNeg) + (-1 : Int32))), (0, .ref ax), (1, .ref a_of), (2, .int i), (3, .int w)]) hx hb dX8_walks_56 hl (by decide) rfl (fun ls hl => ?_)
        have hL58 : ∀ (k58 : Int32 → (Nat → Int32) → Option (Int32 × (Nat → Int32))), (∀ (v10 : Int32) (o_11 : (Nat → Int32)) (H : Heap) (locs : List Loc), va_P D vwCl [(ax, .inr (8, [.int m_letterMany, .ref a_text, .int m_readAt, .ref a_told, .ref a_readLaw, .ref a_readNow, .ref a_law, .ref a_now, .ref a_tried, .int m_undoMany, .int m_undoAt, .ref a_undos, .int m_seenMany, .ref a_seenHour, .ref a_seenAt, .ref a_parts, .ref a_partsThen, .int m_keptMany, .ref a_kept])), (a_law, .inl (cI, 22, .inl m_law)), (a_of, .inl (cI, 26, .inl o_11))] H → va_D A [(ax, .inr (8, [.int m_letterMany, .ref a_text, .int m_readAt, .ref a_told, .ref a_readLaw, .ref a_readNow, .ref a_law, .ref a_now, .ref a_tried, .int m_undoMany, .int m_undoAt, .ref a_undos, .int m_seenMany, .ref a_seenHour, .ref a_seenAt, .ref a_parts, .ref a_partsThen, .int m_keptMany, .ref a_kept])), (a_law, .inl (cI, 22, .inl m_law)), (a_of, .inl (cI, 26, .inl o_11))] → va_S A s.heap H locs → ∀ ls : Array Slot, lv_has ls 7 [] → k58 v10 o_11 = some (rr, o') → W p l e rm_X8_walks s m args below meth c H locs 0 0 Q (F0 m 121 ls [])) → ∀ (nf58 : Nat) (v10 : Int32) (o_11 : (Nat → Int32)) (H : Heap) (locs : List Loc), va_P D vwCl [(ax, .inr (8, [.int m_letterMany, .ref a_text, .int m_readAt, .ref a_told, .ref a_readLaw, .ref a_readNow, .ref a_law, .ref a_now, .ref a_tried, .int m_undoMany, .int m_undoAt, .ref a_undos, .int m_seenMany, .ref a_seenHour, .ref a_seenAt, .ref a_parts, .ref a_partsThen, .int m_keptMany, .ref a_kept])), (a_law, .inl (cI, 22, .inl m_law)), (a_of, .inl (cI, 26, .inl o_11))] H → va_D A [(ax, .inr (8, [.int m_letterMany, .ref a_text, .int m_readAt, .ref a_told, .ref a_readLaw, .ref a_readNow, .ref a_law, .ref a_now, .ref a_tried, .int m_undoMany, .int m_undoAt, .ref a_undos, .int m_seenMany, .ref a_seenHour, .ref a_seenAt, .ref a_parts, .ref a_partsThen, .int m_keptMany, .ref a_kept])), (a_law, .inl (cI, 22, .inl m_law)), (a_of, .inl (cI, 26, .inl o_11))] → va_S A s.heap H locs → ∀ ls : Array Slot, lv_has ls 7 [(6, .int v10), (5, .int (o ((21 : Int32) + i).toNatClampNeg)), (4, .int ((o ((16 : Int32) + i).toNatClampNeg) + (-1 : Int32))), (0, .ref ax), (1, .ref a_of), (2, .int i)] → f_X8_walks_L58 m_law i o k58 nf58 v10 o_11 = some (rr, o') → W p l e rm_X8_walks s m args below meth c H locs 0 0 Q (F0 m 58 ls []) := by
          intro k58 hk58 nf58
          induction nf58 with
          | zero =>
            intro v10 o_11 H locs hP hD hS ls hl hF
            rw [f_X8_walks_L58_0] at hF
            cases hF
          | succ nf58 ih58 =>
            intro v10 o_11 H locs hP hD hS ls hl hF
            rw [f_X8_walks_L58_s] at hF
            refine lv_iload hx hb dX8_walks_58 (lv_at hl 0 rfl) ?_
            refine lv_aload_n hx hb dX8_walks_60 rfl (lv_at hl 3 rfl) ?_
            refine va_get (D := D) (ci := 8) (v := .ref a_law) (C := RX8) (T := TX8) (N := 19) hx hb hts iX8 hown hK hP 0 rfl rfl 6 (by decide) k_f22 (fun _ h9 => h9) rfl dX8_walks_61 ?_
            refine lv_iconst (v := (2 : Int32)) hx hb dX8_walks_64 (by decide) ?_
            refine va_iald hx hb hK hP 1 0 rfl rfl (okb_in (by decide)) dX8_walks_65 ?_
            refine lv_icmp_ge (tgt := 121) hx hb dX8_walks_66 (by decide) (fun c12 => ?_) (fun c12 => ?_)
            · have hF := op_pos c12 hF
              exact hk58 v10 o_11 _ _ hP hD hS _ (lv_sub hl [] rfl) hF
            · have hF := op_neg c12 hF
              refine lv_iload hx hb dX8_walks_69 (lv_at hl 0 rfl) ?_
              refine lv_iload_n hx hb dX8_walks_71 rfl (lv_at hl 5 rfl) ?_
              refine lv_icmp_eq (tgt := 94) hx hb dX8_walks_72 (by decide) (fun c13 => ?_) (fun c13 => ?_)
              · have hF := op_pos c13 hF
                refine lv_aload_n hx hb dX8_walks_94 rfl (lv_at hl 4 rfl) ?_
                refine lv_bipush (v := (16 : Int32)) hx hb dX8_walks_95 (by decide) ?_
                refine lv_iload hx hb dX8_walks_97 (lv_at hl 0 rfl) ?_
                refine lv_iadd hx hb dX8_walks_99 ?_
                refine lv_iload hx hb dX8_walks_100 (lv_at hl 2 rfl) ?_
                obtain ⟨o14, hF⟩ := op_ob hF
                refine va_iast hx hb hK hP hD hS 2 0 rfl rfl (okb_in o14) dX8_walks_102 (fun H locs hP hD hS => ?_)
                have hP : va_P D vwCl [(ax, .inr (8, [.int m_letterMany, .ref a_text, .int m_readAt, .ref a_told, .ref a_readLaw, .ref a_readNow, .ref a_law, .ref a_now, .ref a_tried, .int m_undoMany, .int m_undoAt, .ref a_undos, .int m_seenMany, .ref a_seenHour, .ref a_seenAt, .ref a_parts, .ref a_partsThen, .int m_keptMany, .ref a_kept])), (a_law, .inl (cI, 22, .inl m_law)), (a_of, .inl (cI, 26, .inl (upd o_11 ((16 : Int32) + v10).toNatClampNeg ((o ((16 : Int32) + i).toNatClampNeg) + (-1 : Int32)))))] H := hP
                have hD : va_D A [(ax, .inr (8, [.int m_letterMany, .ref a_text, .int m_readAt, .ref a_told, .ref a_readLaw, .ref a_readNow, .ref a_law, .ref a_now, .ref a_tried, .int m_undoMany, .int m_undoAt, .ref a_undos, .int m_seenMany, .ref a_seenHour, .ref a_seenAt, .ref a_parts, .ref a_partsThen, .int m_keptMany, .ref a_kept])), (a_law, .inl (cI, 22, .inl m_law)), (a_of, .inl (cI, 26, .inl (upd o_11 ((16 : Int32) + v10).toNatClampNeg ((o ((16 : Int32) + i).toNatClampNeg) + (-1 : Int32)))))] := hD
                refine lv_aload_n hx hb dX8_walks_103 rfl (lv_at hl 4 rfl) ?_
                refine lv_iconst (v := (3 : Int32)) hx hb dX8_walks_104 (by decide) ?_
                refine lv_dup2_11 hx hb dX8_walks_105 rfl rfl ?_
                refine va_iald hx hb hK hP 2 0 rfl rfl (okb_in (by decide)) dX8_walks_106 ?_
                refine lv_iconst (v := (1 : Int32)) hx hb dX8_walks_107 (by decide) ?_
                refine lv_iload hx hb dX8_walks_108 (lv_at hl 0 rfl) ?_
                refine lv_ishl hx hb dX8_walks_110 ?_
                refine lv_iconst (v := (-1 : Int32)) hx hb dX8_walks_111 (by decide) ?_
                refine lv_ixor hx hb dX8_walks_112 ?_
                refine lv_iand hx hb dX8_walks_113 ?_
                refine va_iast hx hb hK hP hD hS 2 0 rfl rfl (okb_in (by decide)) dX8_walks_114 (fun H locs hP hD hS => ?_)
                have hP : va_P D vwCl [(ax, .inr (8, [.int m_letterMany, .ref a_text, .int m_readAt, .ref a_told, .ref a_readLaw, .ref a_readNow, .ref a_law, .ref a_now, .ref a_tried, .int m_undoMany, .int m_undoAt, .ref a_undos, .int m_seenMany, .ref a_seenHour, .ref a_seenAt, .ref a_parts, .ref a_partsThen, .int m_keptMany, .ref a_kept])), (a_law, .inl (cI, 22, .inl m_law)), (a_of, .inl (cI, 26, .inl (upd (upd o_11 ((16 : Int32) + v10).toNatClampNeg ((o ((16 : Int32) + i).toNatClampNeg) + (-1 : Int32))) (3 : Int32).toNatClampNeg (((upd o_11 ((16 : Int32) + v10).toNatClampNeg ((o ((16 : Int32) + i).toNatClampNeg) + (-1 : Int32))) (3 : Int32).toNatClampNeg) &&& (((1 : Int32) <<< (v10 &&& 31)) ^^^ (-1 : Int32))))))] H := hP
                have hD : va_D A [(ax, .inr (8, [.int m_letterMany, .ref a_text, .int m_readAt, .ref a_told, .ref a_readLaw, .ref a_readNow, .ref a_law, .ref a_now, .ref a_tried, .int m_undoMany, .int m_undoAt, .ref a_undos, .int m_seenMany, .ref a_seenHour, .ref a_seenAt, .ref a_parts, .ref a_partsThen, .int m_keptMany, .ref a_kept])), (a_law, .inl (cI, 22, .inl m_law)), (a_of, .inl (cI, 26, .inl (upd (upd o_11 ((16 : Int32) + v10).toNatClampNeg ((o ((16 : Int32) + i).toNatClampNeg) + (-1 : Int32))) (3 : Int32).toNatClampNeg (((upd o_11 ((16 : Int32) + v10).toNatClampNeg ((o ((16 : Int32) + i).toNatClampNeg) + (-1 : Int32))) (3 : Int32).toNatClampNeg) &&& (((1 : Int32) <<< (v10 &&& 31)) ^^^ (-1 : Int32))))))] := hD
                refine lv_iinc (v := (v10 + (1 : Int32))) (lv' := [(6, .int (v10 + (1 : Int32))), (5, .int (o ((21 : Int32) + i).toNatClampNeg)), (4, .int ((o ((16 : Int32) + i).toNatClampNeg) + (-1 : Int32))), (0, .ref ax), (1, .ref a_of), (2, .int i)]) hx hb dX8_walks_115 hl (k := 0) rfl (by first | rfl | decide) (by decide) rfl (fun ls hl => ?_)
                refine lv_goto (tgt := 58) hx hb dX8_walks_118 (by decide) ?_
                exact ih58 (v10 + (1 : Int32)) (upd (upd o_11 ((16 : Int32) + v10).toNatClampNeg ((o ((16 : Int32) + i).toNatClampNeg) + (-1 : Int32))) (3 : Int32).toNatClampNeg (((upd o_11 ((16 : Int32) + v10).toNatClampNeg ((o ((16 : Int32) + i).toNatClampNeg) + (-1 : Int32))) (3 : Int32).toNatClampNeg) &&& (((1 : Int32) <<< (v10 &&& 31)) ^^^ (-1 : Int32)))) _ _ hP hD hS _ (lv_sub hl [0, 1, 2, 3, 4, 5] rfl) hF
              · have hF := op_neg c13 hF
                refine lv_iload hx hb dX8_walks_75 (lv_at hl 1 rfl) ?_
                refine lv_bipush (v := (-4 : Int32)) hx hb dX8_walks_77 (by decide) ?_
                refine lv_icmp_eq (tgt := 115) hx hb dX8_walks_79 (by decide) (fun c15 => ?_) (fun c15 => ?_)
                · have hF := op_pos c15 hF
                  refine lv_iinc (v := (v10 + (1 : Int32))) (lv' := [(6, .int (v10 + (1 : Int32))), (5, .int (o ((21 : Int32) + i).toNatClampNeg)), (4, .int ((o ((16 : Int32) + i).toNatClampNeg) + (-1 : Int32))), (0, .ref ax), (1, .ref a_of), (2, .int i)]) hx hb dX8_walks_115 hl (k := 0) rfl (by first | rfl | decide) (by decide) rfl (fun ls hl => ?_)
                  refine lv_goto (tgt := 58) hx hb dX8_walks_118 (by decide) ?_
                  exact ih58 (v10 + (1 : Int32)) o_11 _ _ hP hD hS _ (lv_sub hl [0, 1, 2, 3, 4, 5] rfl) hF
                · have hF := op_neg c15 hF
                  refine lv_aload_n hx hb dX8_walks_82 rfl (lv_at hl 4 rfl) ?_
                  refine lv_bipush (v := (21 : Int32)) hx hb dX8_walks_83 (by decide) ?_
                  refine lv_iload hx hb dX8_walks_85 (lv_at hl 0 rfl) ?_
                  refine lv_iadd hx hb dX8_walks_87 ?_
                  obtain ⟨o16, hF⟩ := op_ob hF
                  refine va_iald hx hb hK hP 2 0 rfl rfl (okb_in o16) dX8_walks_88 ?_
                  refine lv_iload hx hb dX8_walks_89 (lv_at hl 1 rfl) ?_
                  refine lv_icmp_ne (tgt := 115) hx hb dX8_walks_91 (by decide) (fun c17 => ?_) (fun c17 => ?_)
                  · have hF := op_neg c17 hF
                    refine lv_iinc (v := (v10 + (1 : Int32))) (lv' := [(6, .int (v10 + (1 : Int32))), (5, .int (o ((21 : Int32) + i).toNatClampNeg)), (4, .int ((o ((16 : Int32) + i).toNatClampNeg) + (-1 : Int32))), (0, .ref ax), (1, .ref a_of), (2, .int i)]) hx hb dX8_walks_115 hl (k := 0) rfl (by first | rfl | decide) (by decide) rfl (fun ls hl => ?_)
                    refine lv_goto (tgt := 58) hx hb dX8_walks_118 (by decide) ?_
                    exact ih58 (v10 + (1 : Int32)) o_11 _ _ hP hD hS _ (lv_sub hl [0, 1, 2, 3, 4, 5] rfl) hF
                  · have hF := op_pos c17 hF
                    refine lv_aload_n hx hb dX8_walks_94 rfl (lv_at hl 4 rfl) ?_
                    refine lv_bipush (v := (16 : Int32)) hx hb dX8_walks_95 (by decide) ?_
                    refine lv_iload hx hb dX8_walks_97 (lv_at hl 0 rfl) ?_
                    refine lv_iadd hx hb dX8_walks_99 ?_
                    refine lv_iload hx hb dX8_walks_100 (lv_at hl 2 rfl) ?_
                    obtain ⟨o18, hF⟩ := op_ob hF
                    refine va_iast hx hb hK hP hD hS 2 0 rfl rfl (okb_in o18) dX8_walks_102 (fun H locs hP hD hS => ?_)
                    have hP : va_P D vwCl [(ax, .inr (8, [.int m_letterMany, .ref a_text, .int m_readAt, .ref a_told, .ref a_readLaw, .ref a_readNow, .ref a_law, .ref a_now, .ref a_tried, .int m_undoMany, .int m_undoAt, .ref a_undos, .int m_seenMany, .ref a_seenHour, .ref a_seenAt, .ref a_parts, .ref a_partsThen, .int m_keptMany, .ref a_kept])), (a_law, .inl (cI, 22, .inl m_law)), (a_of, .inl (cI, 26, .inl (upd o_11 ((16 : Int32) + v10).toNatClampNeg ((o ((16 : Int32) + i).toNatClampNeg) + (-1 : Int32)))))] H := hP
                    have hD : va_D A [(ax, .inr (8, [.int m_letterMany, .ref a_text, .int m_readAt, .ref a_told, .ref a_readLaw, .ref a_readNow, .ref a_law, .ref a_now, .ref a_tried, .int m_undoMany, .int m_undoAt, .ref a_undos, .int m_seenMany, .ref a_seenHour, .ref a_seenAt, .ref a_parts, .ref a_partsThen, .int m_keptMany, .ref a_kept])), (a_law, .inl (cI, 22, .inl m_law)), (a_of, .inl (cI, 26, .inl (upd o_11 ((16 : Int32) + v10).toNatClampNeg ((o ((16 : Int32) + i).toNatClampNeg) + (-1 : Int32)))))] := hD
                    refine lv_aload_n hx hb dX8_walks_103 rfl (lv_at hl 4 rfl) ?_
                    refine lv_iconst (v := (3 : Int32)) hx hb dX8_walks_104 (by decide) ?_
                    refine lv_dup2_11 hx hb dX8_walks_105 rfl rfl ?_
                    refine va_iald hx hb hK hP 2 0 rfl rfl (okb_in (by decide)) dX8_walks_106 ?_
                    refine lv_iconst (v := (1 : Int32)) hx hb dX8_walks_107 (by decide) ?_
                    refine lv_iload hx hb dX8_walks_108 (lv_at hl 0 rfl) ?_
                    refine lv_ishl hx hb dX8_walks_110 ?_
                    refine lv_iconst (v := (-1 : Int32)) hx hb dX8_walks_111 (by decide) ?_
                    refine lv_ixor hx hb dX8_walks_112 ?_
                    refine lv_iand hx hb dX8_walks_113 ?_
                    refine va_iast hx hb hK hP hD hS 2 0 rfl rfl (okb_in (by decide)) dX8_walks_114 (fun H locs hP hD hS => ?_)
                    have hP : va_P D vwCl [(ax, .inr (8, [.int m_letterMany, .ref a_text, .int m_readAt, .ref a_told, .ref a_readLaw, .ref a_readNow, .ref a_law, .ref a_now, .ref a_tried, .int m_undoMany, .int m_undoAt, .ref a_undos, .int m_seenMany, .ref a_seenHour, .ref a_seenAt, .ref a_parts, .ref a_partsThen, .int m_keptMany, .ref a_kept])), (a_law, .inl (cI, 22, .inl m_law)), (a_of, .inl (cI, 26, .inl (upd (upd o_11 ((16 : Int32) + v10).toNatClampNeg ((o ((16 : Int32) + i).toNatClampNeg) + (-1 : Int32))) (3 : Int32).toNatClampNeg (((upd o_11 ((16 : Int32) + v10).toNatClampNeg ((o ((16 : Int32) + i).toNatClampNeg) + (-1 : Int32))) (3 : Int32).toNatClampNeg) &&& (((1 : Int32) <<< (v10 &&& 31)) ^^^ (-1 : Int32))))))] H := hP
                    have hD : va_D A [(ax, .inr (8, [.int m_letterMany, .ref a_text, .int m_readAt, .ref a_told, .ref a_readLaw, .ref a_readNow, .ref a_law, .ref a_now, .ref a_tried, .int m_undoMany, .int m_undoAt, .ref a_undos, .int m_seenMany, .ref a_seenHour, .ref a_seenAt, .ref a_parts, .ref a_partsThen, .int m_keptMany, .ref a_kept])), (a_law, .inl (cI, 22, .inl m_law)), (a_of, .inl (cI, 26, .inl (upd (upd o_11 ((16 : Int32) + v10).toNatClampNeg ((o ((16 : Int32) + i).toNatClampNeg) + (-1 : Int32))) (3 : Int32).toNatClampNeg (((upd o_11 ((16 : Int32) + v10).toNatClampNeg ((o ((16 : Int32) + i).toNatClampNeg) + (-1 : Int32))) (3 : Int32).toNatClampNeg) &&& (((1 : Int32) <<< (v10 &&& 31)) ^^^ (-1 : Int32))))))] := hD
                    refine lv_iinc (v := (v10 + (1 : Int32))) (lv' := [(6, .int (v10 + (1 : Int32))), (5, .int (o ((21 : Int32) + i).toNatClampNeg)), (4, .int ((o ((16 : Int32) + i).toNatClampNeg) + (-1 : Int32))), (0, .ref ax), (1, .ref a_of), (2, .int i)]) hx hb dX8_walks_115 hl (k := 0) rfl (by first | rfl | decide) (by decide) rfl (fun ls hl => ?_)
                    refine lv_goto (tgt := 58) hx hb dX8_walks_118 (by decide) ?_
                    exact ih58 (v10 + (1 : Int32)) (upd (upd o_11 ((16 : Int32) + v10).toNatClampNeg ((o ((16 : Int32) + i).toNatClampNeg) + (-1 : Int32))) (3 : Int32).toNatClampNeg (((upd o_11 ((16 : Int32) + v10).toNatClampNeg ((o ((16 : Int32) + i).toNatClampNeg) + (-1 : Int32))) (3 : Int32).toNatClampNeg) &&& (((1 : Int32) <<< (v10 &&& 31)) ^^^ (-1 : Int32)))) _ _ hP hD hS _ (lv_sub hl [0, 1, 2, 3, 4, 5] rfl) hF
        refine hL58 _ (fun v10 o_11 H locs hP hD hS ls hl hF => ?_) 20000 (0 : Int32) o _ _ hP hD hS _ (lv_sub hl [0, 1, 2, 3, 4, 5] rfl) hF
        refine lv_iconst (v := (1 : Int32)) hx hb dX8_walks_121 (by decide) ?_
        cases hF
        rw [hQ]
        exact xrz hC rfl hP hS dX8_walks_122
      · have hF := op_pos c8 hF
        refine lv_iconst (v := (0 : Int32)) hx hb dX8_walks_45 (by decide) ?_
        cases hF
        rw [hQ]
        exact xrz hC rfl hP hS dX8_walks_46
  · have hF := op_pos c2 hF
    refine lv_iconst (v := (1 : Int32)) hx hb dX8_walks_10 (by decide) ?_
    refine lv_goto (tgt := 15) hx hb dX8_walks_11 (by decide) ?_
    refine lv_iadd hx hb dX8_walks_15 ?_
    refine lv_istore (lv' := [(4, .int ((o ((16 : Int32) + i).toNatClampNeg) + (1 : Int32))), (0, .ref ax), (1, .ref a_of), (2, .int i), (3, .int w)]) hx hb dX8_walks_16 hl (by decide) rfl (fun ls hl => ?_)
    refine lv_aload_n hx hb dX8_walks_18 rfl (lv_at hl 2 rfl) ?_
    refine lv_iconst (v := (3 : Int32)) hx hb dX8_walks_19 (by decide) ?_
    refine va_iald hx hb hK hP 2 0 rfl rfl (okb_in (by decide)) dX8_walks_20 ?_
    refine lv_iload_n hx hb dX8_walks_21 rfl (lv_at hl 3 rfl) ?_
    obtain ⟨r19, hb20, hF⟩ := op_bind hF
    refine xSr (As := [.int (o (3 : Int32).toNatClampNeg), .int i]) (rest := []) hC hP hD hS [] (c_X8_has l D cI cC cM (o (3 : Int32).toNatClampNeg) i r19 hb20) (va_cwS 2 hts gX8_walks_X8_has rfl rfl rfl pd_X8_has ⟨Nat.le_of_ble_eq_true rfl, Nat.le_of_ble_eq_true rfl⟩) rfl rfl rfl hl.1 rfl (Nat.le_of_ble_eq_true rfl) dX8_walks_22 ⟨Nat.zero_le _, Nat.zero_le _⟩ (fun H locs hP hS => ?_)
    refine lv_if_ne (tgt := 45) hx hb dX8_walks_25 (by decide) (fun c21 => ?_) (fun c21 => ?_)
    · have hF := op_neg c21 hF
      refine lv_iconst (v := (0 : Int32)) hx hb dX8_walks_45 (by decide) ?_
      cases hF
      rw [hQ]
      exact xrz hC rfl hP hS dX8_walks_46
    · have hF := op_pos c21 hF
      refine lv_iload hx hb dX8_walks_28 (lv_at hl 0 rfl) ?_
      refine lv_iconst (v := (0 : Int32)) hx hb dX8_walks_30 (by decide) ?_
      refine lv_aload_n hx hb dX8_walks_31 rfl (lv_at hl 1 rfl) ?_
      refine va_get (D := D) (ci := 8) (v := .ref a_law) (C := RX8) (T := TX8) (N := 19) hx hb hts iX8 hown hK hP 0 rfl rfl 6 (by decide) k_f22 (fun _ h9 => h9) rfl dX8_walks_32 ?_
      refine lv_iconst (v := (0 : Int32)) hx hb dX8_walks_35 (by decide) ?_
      refine va_iald hx hb hK hP 1 0 rfl rfl (okb_in (by decide)) dX8_walks_36 ?_
      refine lv_iconst (v := (1 : Int32)) hx hb dX8_walks_37 (by decide) ?_
      refine lv_isub hx hb dX8_walks_38 ?_
      obtain ⟨r22, hb23, hF⟩ := op_bind hF
      refine xSr (As := [.int ((o ((16 : Int32) + i).toNatClampNeg) + (1 : Int32)), .int (0 : Int32), .int ((m_law (0 : Int32).toNatClampNeg) - (1 : Int32))]) (rest := []) hC hP hD hS [] (c_X8_in l D cI cC cM ((o ((16 : Int32) + i).toNatClampNeg) + (1 : Int32)) (0 : Int32) ((m_law (0 : Int32).toNatClampNeg) - (1 : Int32)) r22 hb23) (va_cwS 3 hts gX8_walks_X8_in rfl rfl rfl pd_X8_in ⟨Nat.le_of_ble_eq_true rfl, Nat.le_of_ble_eq_true rfl⟩) rfl rfl rfl hl.1 rfl (Nat.le_of_ble_eq_true rfl) dX8_walks_39 ⟨Nat.zero_le _, Nat.zero_le _⟩ (fun H locs hP hS => ?_)
      refine lv_if_ne (tgt := 47) hx hb dX8_walks_42 (by decide) (fun c24 => ?_) (fun c24 => ?_)
      · have hF := op_neg c24 hF
        refine lv_aload_n hx hb dX8_walks_47 rfl (lv_at hl 2 rfl) ?_
        refine lv_bipush (v := (21 : Int32)) hx hb dX8_walks_48 (by decide) ?_
        refine lv_iload_n hx hb dX8_walks_50 rfl (lv_at hl 3 rfl) ?_
        refine lv_iadd hx hb dX8_walks_51 ?_
        obtain ⟨o25, hF⟩ := op_ob hF
        refine va_iald hx hb hK hP 2 0 rfl rfl (okb_in o25) dX8_walks_52 ?_
        refine lv_istore (lv' := [(5, .int (o ((21 : Int32) + i).toNatClampNeg)), (4, .int ((o ((16 : Int32) + i).toNatClampNeg) + (1 : Int32))), (0, .ref ax), (1, .ref a_of), (2, .int i), (3, .int w)]) hx hb dX8_walks_53 hl (by decide) rfl (fun ls hl => ?_)
        refine lv_iconst (v := (0 : Int32)) hx hb dX8_walks_55 (by decide) ?_
        refine lv_istore (lv' := [(6, .int (0 : Int32)), (5, .int (o ((21 : Int32) + i).toNatClampNeg)), (4, .int ((o ((16 : Int32) + i).toNatClampNeg) + (1 : Int32))), (0, .ref ax), (1, .ref a_of), (2, .int i), (3, .int w)]) hx hb dX8_walks_56 hl (by decide) rfl (fun ls hl => ?_)
        have hL58 : ∀ (k58 : Int32 → (Nat → Int32) → Option (Int32 × (Nat → Int32))), (∀ (v26 : Int32) (o_27 : (Nat → Int32)) (H : Heap) (locs : List Loc), va_P D vwCl [(ax, .inr (8, [.int m_letterMany, .ref a_text, .int m_readAt, .ref a_told, .ref a_readLaw, .ref a_readNow, .ref a_law, .ref a_now, .ref a_tried, .int m_undoMany, .int m_undoAt, .ref a_undos, .int m_seenMany, .ref a_seenHour, .ref a_seenAt, .ref a_parts, .ref a_partsThen, .int m_keptMany, .ref a_kept])), (a_law, .inl (cI, 22, .inl m_law)), (a_of, .inl (cI, 26, .inl o_27))] H → va_D A [(ax, .inr (8, [.int m_letterMany, .ref a_text, .int m_readAt, .ref a_told, .ref a_readLaw, .ref a_readNow, .ref a_law, .ref a_now, .ref a_tried, .int m_undoMany, .int m_undoAt, .ref a_undos, .int m_seenMany, .ref a_seenHour, .ref a_seenAt, .ref a_parts, .ref a_partsThen, .int m_keptMany, .ref a_kept])), (a_law, .inl (cI, 22, .inl m_law)), (a_of, .inl (cI, 26, .inl o_27))] → va_S A s.heap H locs → ∀ ls : Array Slot, lv_has ls 7 [] → k58 v26 o_27 = some (rr, o') → W p l e rm_X8_walks s m args below meth c H locs 0 0 Q (F0 m 121 ls [])) → ∀ (nf58 : Nat) (v26 : Int32) (o_27 : (Nat → Int32)) (H : Heap) (locs : List Loc), va_P D vwCl [(ax, .inr (8, [.int m_letterMany, .ref a_text, .int m_readAt, .ref a_told, .ref a_readLaw, .ref a_readNow, .ref a_law, .ref a_now, .ref a_tried, .int m_undoMany, .int m_undoAt, .ref a_undos, .int m_seenMany, .ref a_seenHour, .ref a_seenAt, .ref a_parts, .ref a_partsThen, .int m_keptMany, .ref a_kept])), (a_law, .inl (cI, 22, .inl m_law)), (a_of, .inl (cI, 26, .inl o_27))] H → va_D A [(ax, .inr (8, [.int m_letterMany, .ref a_text, .int m_readAt, .ref a_told, .ref a_readLaw, .ref a_readNow, .ref a_law, .ref a_now, .ref a_tried, .int m_undoMany, .int m_undoAt, .ref a_undos, .int m_seenMany, .ref a_seenHour, .ref a_seenAt, .ref a_parts, .ref a_partsThen, .int m_keptMany, .ref a_kept])), (a_law, .inl (cI, 22, .inl m_law)), (a_of, .inl (cI, 26, .inl o_27))] → va_S A s.heap H locs → ∀ ls : Array Slot, lv_has ls 7 [(6, .int v26), (5, .int (o ((21 : Int32) + i).toNatClampNeg)), (4, .int ((o ((16 : Int32) + i).toNatClampNeg) + (1 : Int32))), (0, .ref ax), (1, .ref a_of), (2, .int i)] → f_X8_walks_L58_2 m_law i o k58 nf58 v26 o_27 = some (rr, o') → W p l e rm_X8_walks s m args below meth c H locs 0 0 Q (F0 m 58 ls []) := by
          intro k58 hk58 nf58
          induction nf58 with
          | zero =>
            intro v26 o_27 H locs hP hD hS ls hl hF
            rw [f_X8_walks_L58_2_0] at hF
            cases hF
          | succ nf58 ih58 =>
            intro v26 o_27 H locs hP hD hS ls hl hF
            rw [f_X8_walks_L58_2_s] at hF
            refine lv_iload hx hb dX8_walks_58 (lv_at hl 0 rfl) ?_
            refine lv_aload_n hx hb dX8_walks_60 rfl (lv_at hl 3 rfl) ?_
            refine va_get (D := D) (ci := 8) (v := .ref a_law) (C := RX8) (T := TX8) (N := 19) hx hb hts iX8 hown hK hP 0 rfl rfl 6 (by decide) k_f22 (fun _ h9 => h9) rfl dX8_walks_61 ?_
            refine lv_iconst (v := (2 : Int32)) hx hb dX8_walks_64 (by decide) ?_
            refine va_iald hx hb hK hP 1 0 rfl rfl (okb_in (by decide)) dX8_walks_65 ?_
            refine lv_icmp_ge (tgt := 121) hx hb dX8_walks_66 (by decide) (fun c28 => ?_) (fun c28 => ?_)
            · have hF := op_pos c28 hF
              exact hk58 v26 o_27 _ _ hP hD hS _ (lv_sub hl [] rfl) hF
            · have hF := op_neg c28 hF
              refine lv_iload hx hb dX8_walks_69 (lv_at hl 0 rfl) ?_
              refine lv_iload_n hx hb dX8_walks_71 rfl (lv_at hl 5 rfl) ?_
              refine lv_icmp_eq (tgt := 94) hx hb dX8_walks_72 (by decide) (fun c29 => ?_) (fun c29 => ?_)
              · have hF := op_pos c29 hF
                refine lv_aload_n hx hb dX8_walks_94 rfl (lv_at hl 4 rfl) ?_
                refine lv_bipush (v := (16 : Int32)) hx hb dX8_walks_95 (by decide) ?_
                refine lv_iload hx hb dX8_walks_97 (lv_at hl 0 rfl) ?_
                refine lv_iadd hx hb dX8_walks_99 ?_
                refine lv_iload hx hb dX8_walks_100 (lv_at hl 2 rfl) ?_
                obtain ⟨o30, hF⟩ := op_ob hF
                refine va_iast hx hb hK hP hD hS 2 0 rfl rfl (okb_in o30) dX8_walks_102 (fun H locs hP hD hS => ?_)
                have hP : va_P D vwCl [(ax, .inr (8, [.int m_letterMany, .ref a_text, .int m_readAt, .ref a_told, .ref a_readLaw, .ref a_readNow, .ref a_law, .ref a_now, .ref a_tried, .int m_undoMany, .int m_undoAt, .ref a_undos, .int m_seenMany, .ref a_seenHour, .ref a_seenAt, .ref a_parts, .ref a_partsThen, .int m_keptMany, .ref a_kept])), (a_law, .inl (cI, 22, .inl m_law)), (a_of, .inl (cI, 26, .inl (upd o_27 ((16 : Int32) + v26).toNatClampNeg ((o ((16 : Int32) + i).toNatClampNeg) + (1 : Int32)))))] H := hP
                have hD : va_D A [(ax, .inr (8, [.int m_letterMany, .ref a_text, .int m_readAt, .ref a_told, .ref a_readLaw, .ref a_readNow, .ref a_law, .ref a_now, .ref a_tried, .int m_undoMany, .int m_undoAt, .ref a_undos, .int m_seenMany, .ref a_seenHour, .ref a_seenAt, .ref a_parts, .ref a_partsThen, .int m_keptMany, .ref a_kept])), (a_law, .inl (cI, 22, .inl m_law)), (a_of, .inl (cI, 26, .inl (upd o_27 ((16 : Int32) + v26).toNatClampNeg ((o ((16 : Int32) + i).toNatClampNeg) + (1 : Int32)))))] := hD
                refine lv_aload_n hx hb dX8_walks_103 rfl (lv_at hl 4 rfl) ?_
                refine lv_iconst (v := (3 : Int32)) hx hb dX8_walks_104 (by decide) ?_
                refine lv_dup2_11 hx hb dX8_walks_105 rfl rfl ?_
                refine va_iald hx hb hK hP 2 0 rfl rfl (okb_in (by decide)) dX8_walks_106 ?_
                refine lv_iconst (v := (1 : Int32)) hx hb dX8_walks_107 (by decide) ?_
                refine lv_iload hx hb dX8_walks_108 (lv_at hl 0 rfl) ?_
                refine lv_ishl hx hb dX8_walks_110 ?_
                refine lv_iconst (v := (-1 : Int32)) hx hb dX8_walks_111 (by decide) ?_
                refine lv_ixor hx hb dX8_walks_112 ?_
                refine lv_iand hx hb dX8_walks_113 ?_
                refine va_iast hx hb hK hP hD hS 2 0 rfl rfl (okb_in (by decide)) dX8_walks_114 (fun H locs hP hD hS => ?_)
                have hP : va_P D vwCl [(ax, .inr (8, [.int m_letterMany, .ref a_text, .int m_readAt, .ref a_told, .ref a_readLaw, .ref a_readNow, .ref a_law, .ref a_now, .ref a_tried, .int m_undoMany, .int m_undoAt, .ref a_undos, .int m_seenMany, .ref a_seenHour, .ref a_seenAt, .ref a_parts, .ref a_partsThen, .int m_keptMany, .ref a_kept])), (a_law, .inl (cI, 22, .inl m_law)), (a_of, .inl (cI, 26, .inl (upd (upd o_27 ((16 : Int32) + v26).toNatClampNeg ((o ((16 : Int32) + i).toNatClampNeg) + (1 : Int32))) (3 : Int32).toNatClampNeg (((upd o_27 ((16 : Int32) + v26).toNatClampNeg ((o ((16 : Int32) + i).toNatClampNeg) + (1 : Int32))) (3 : Int32).toNatClampNeg) &&& (((1 : Int32) <<< (v26 &&& 31)) ^^^ (-1 : Int32))))))] H := hP
                have hD : va_D A [(ax, .inr (8, [.int m_letterMany, .ref a_text, .int m_readAt, .ref a_told, .ref a_readLaw, .ref a_readNow, .ref a_law, .ref a_now, .ref a_tried, .int m_undoMany, .int m_undoAt, .ref a_undos, .int m_seenMany, .ref a_seenHour, .ref a_seenAt, .ref a_parts, .ref a_partsThen, .int m_keptMany, .ref a_kept])), (a_law, .inl (cI, 22, .inl m_law)), (a_of, .inl (cI, 26, .inl (upd (upd o_27 ((16 : Int32) + v26).toNatClampNeg ((o ((16 : Int32) + i).toNatClampNeg) + (1 : Int32))) (3 : Int32).toNatClampNeg (((upd o_27 ((16 : Int32) + v26).toNatClampNeg ((o ((16 : Int32) + i).toNatClampNeg) + (1 : Int32))) (3 : Int32).toNatClampNeg) &&& (((1 : Int32) <<< (v26 &&& 31)) ^^^ (-1 : Int32))))))] := hD
                refine lv_iinc (v := (v26 + (1 : Int32))) (lv' := [(6, .int (v26 + (1 : Int32))), (5, .int (o ((21 : Int32) + i).toNatClampNeg)), (4, .int ((o ((16 : Int32) + i).toNatClampNeg) + (1 : Int32))), (0, .ref ax), (1, .ref a_of), (2, .int i)]) hx hb dX8_walks_115 hl (k := 0) rfl (by first | rfl | decide) (by decide) rfl (fun ls hl => ?_)
                refine lv_goto (tgt := 58) hx hb dX8_walks_118 (by decide) ?_
                exact ih58 (v26 + (1 : Int32)) (upd (upd o_27 ((16 : Int32) + v26).toNatClampNeg ((o ((16 : Int32) + i).toNatClampNeg) + (1 : Int32))) (3 : Int32).toNatClampNeg (((upd o_27 ((16 : Int32) + v26).toNatClampNeg ((o ((16 : Int32) + i).toNatClampNeg) + (1 : Int32))) (3 : Int32).toNatClampNeg) &&& (((1 : Int32) <<< (v26 &&& 31)) ^^^ (-1 : Int32)))) _ _ hP hD hS _ (lv_sub hl [0, 1, 2, 3, 4, 5] rfl) hF
              · have hF := op_neg c29 hF
                refine lv_iload hx hb dX8_walks_75 (lv_at hl 1 rfl) ?_
                refine lv_bipush (v := (-4 : Int32)) hx hb dX8_walks_77 (by decide) ?_
                refine lv_icmp_eq (tgt := 115) hx hb dX8_walks_79 (by decide) (fun c31 => ?_) (fun c31 => ?_)
                · have hF := op_pos c31 hF
                  refine lv_iinc (v := (v26 + (1 : Int32))) (lv' := [(6, .int (v26 + (1 : Int32))), (5, .int (o ((21 : Int32) + i).toNatClampNeg)), (4, .int ((o ((16 : Int32) + i).toNatClampNeg) + (1 : Int32))), (0, .ref ax), (1, .ref a_of), (2, .int i)]) hx hb dX8_walks_115 hl (k := 0) rfl (by first | rfl | decide) (by decide) rfl (fun ls hl => ?_)
                  refine lv_goto (tgt := 58) hx hb dX8_walks_118 (by decide) ?_
                  exact ih58 (v26 + (1 : Int32)) o_27 _ _ hP hD hS _ (lv_sub hl [0, 1, 2, 3, 4, 5] rfl) hF
                · have hF := op_neg c31 hF
                  refine lv_aload_n hx hb dX8_walks_82 rfl (lv_at hl 4 rfl) ?_
                  refine lv_bipush (v := (21 : Int32)) hx hb dX8_walks_83 (by decide) ?_
                  refine lv_iload hx hb dX8_walks_85 (lv_at hl 0 rfl) ?_
                  refine lv_iadd hx hb dX8_walks_87 ?_
                  obtain ⟨o32, hF⟩ := op_ob hF
                  refine va_iald hx hb hK hP 2 0 rfl rfl (okb_in o32) dX8_walks_88 ?_
                  refine lv_iload hx hb dX8_walks_89 (lv_at hl 1 rfl) ?_
                  refine lv_icmp_ne (tgt := 115) hx hb dX8_walks_91 (by decide) (fun c33 => ?_) (fun c33 => ?_)
                  · have hF := op_neg c33 hF
                    refine lv_iinc (v := (v26 + (1 : Int32))) (lv' := [(6, .int (v26 + (1 : Int32))), (5, .int (o ((21 : Int32) + i).toNatClampNeg)), (4, .int ((o ((16 : Int32) + i).toNatClampNeg) + (1 : Int32))), (0, .ref ax), (1, .ref a_of), (2, .int i)]) hx hb dX8_walks_115 hl (k := 0) rfl (by first | rfl | decide) (by decide) rfl (fun ls hl => ?_)
                    refine lv_goto (tgt := 58) hx hb dX8_walks_118 (by decide) ?_
                    exact ih58 (v26 + (1 : Int32)) o_27 _ _ hP hD hS _ (lv_sub hl [0, 1, 2, 3, 4, 5] rfl) hF
                  · have hF := op_pos c33 hF
                    refine lv_aload_n hx hb dX8_walks_94 rfl (lv_at hl 4 rfl) ?_
                    refine lv_bipush (v := (16 : Int32)) hx hb dX8_walks_95 (by decide) ?_
                    refine lv_iload hx hb dX8_walks_97 (lv_at hl 0 rfl) ?_
                    refine lv_iadd hx hb dX8_walks_99 ?_
                    refine lv_iload hx hb dX8_walks_100 (lv_at hl 2 rfl) ?_
                    obtain ⟨o34, hF⟩ := op_ob hF
                    refine va_iast hx hb hK hP hD hS 2 0 rfl rfl (okb_in o34) dX8_walks_102 (fun H locs hP hD hS => ?_)
                    have hP : va_P D vwCl [(ax, .inr (8, [.int m_letterMany, .ref a_text, .int m_readAt, .ref a_told, .ref a_readLaw, .ref a_readNow, .ref a_law, .ref a_now, .ref a_tried, .int m_undoMany, .int m_undoAt, .ref a_undos, .int m_seenMany, .ref a_seenHour, .ref a_seenAt, .ref a_parts, .ref a_partsThen, .int m_keptMany, .ref a_kept])), (a_law, .inl (cI, 22, .inl m_law)), (a_of, .inl (cI, 26, .inl (upd o_27 ((16 : Int32) + v26).toNatClampNeg ((o ((16 : Int32) + i).toNatClampNeg) + (1 : Int32)))))] H := hP
                    have hD : va_D A [(ax, .inr (8, [.int m_letterMany, .ref a_text, .int m_readAt, .ref a_told, .ref a_readLaw, .ref a_readNow, .ref a_law, .ref a_now, .ref a_tried, .int m_undoMany, .int m_undoAt, .ref a_undos, .int m_seenMany, .ref a_seenHour, .ref a_seenAt, .ref a_parts, .ref a_partsThen, .int m_keptMany, .ref a_kept])), (a_law, .inl (cI, 22, .inl m_law)), (a_of, .inl (cI, 26, .inl (upd o_27 ((16 : Int32) + v26).toNatClampNeg ((o ((16 : Int32) + i).toNatClampNeg) + (1 : Int32)))))] := hD
                    refine lv_aload_n hx hb dX8_walks_103 rfl (lv_at hl 4 rfl) ?_
                    refine lv_iconst (v := (3 : Int32)) hx hb dX8_walks_104 (by decide) ?_
                    refine lv_dup2_11 hx hb dX8_walks_105 rfl rfl ?_
                    refine va_iald hx hb hK hP 2 0 rfl rfl (okb_in (by decide)) dX8_walks_106 ?_
                    refine lv_iconst (v := (1 : Int32)) hx hb dX8_walks_107 (by decide) ?_
                    refine lv_iload hx hb dX8_walks_108 (lv_at hl 0 rfl) ?_
                    refine lv_ishl hx hb dX8_walks_110 ?_
                    refine lv_iconst (v := (-1 : Int32)) hx hb dX8_walks_111 (by decide) ?_
                    refine lv_ixor hx hb dX8_walks_112 ?_
                    refine lv_iand hx hb dX8_walks_113 ?_
                    refine va_iast hx hb hK hP hD hS 2 0 rfl rfl (okb_in (by decide)) dX8_walks_114 (fun H locs hP hD hS => ?_)
                    have hP : va_P D vwCl [(ax, .inr (8, [.int m_letterMany, .ref a_text, .int m_readAt, .ref a_told, .ref a_readLaw, .ref a_readNow, .ref a_law, .ref a_now, .ref a_tried, .int m_undoMany, .int m_undoAt, .ref a_undos, .int m_seenMany, .ref a_seenHour, .ref a_seenAt, .ref a_parts, .ref a_partsThen, .int m_keptMany, .ref a_kept])), (a_law, .inl (cI, 22, .inl m_law)), (a_of, .inl (cI, 26, .inl (upd (upd o_27 ((16 : Int32) + v26).toNatClampNeg ((o ((16 : Int32) + i).toNatClampNeg) + (1 : Int32))) (3 : Int32).toNatClampNeg (((upd o_27 ((16 : Int32) + v26).toNatClampNeg ((o ((16 : Int32) + i).toNatClampNeg) + (1 : Int32))) (3 : Int32).toNatClampNeg) &&& (((1 : Int32) <<< (v26 &&& 31)) ^^^ (-1 : Int32))))))] H := hP
                    have hD : va_D A [(ax, .inr (8, [.int m_letterMany, .ref a_text, .int m_readAt, .ref a_told, .ref a_readLaw, .ref a_readNow, .ref a_law, .ref a_now, .ref a_tried, .int m_undoMany, .int m_undoAt, .ref a_undos, .int m_seenMany, .ref a_seenHour, .ref a_seenAt, .ref a_parts, .ref a_partsThen, .int m_keptMany, .ref a_kept])), (a_law, .inl (cI, 22, .inl m_law)), (a_of, .inl (cI, 26, .inl (upd (upd o_27 ((16 : Int32) + v26).toNatClampNeg ((o ((16 : Int32) + i).toNatClampNeg) + (1 : Int32))) (3 : Int32).toNatClampNeg (((upd o_27 ((16 : Int32) + v26).toNatClampNeg ((o ((16 : Int32) + i).toNatClampNeg) + (1 : Int32))) (3 : Int32).toNatClampNeg) &&& (((1 : Int32) <<< (v26 &&& 31)) ^^^ (-1 : Int32))))))] := hD
                    refine lv_iinc (v := (v26 + (1 : Int32))) (lv' := [(6, .int (v26 + (1 : Int32))), (5, .int (o ((21 : Int32) + i).toNatClampNeg)), (4, .int ((o ((16 : Int32) + i).toNatClampNeg) + (1 : Int32))), (0, .ref ax), (1, .ref a_of), (2, .int i)]) hx hb dX8_walks_115 hl (k := 0) rfl (by first | rfl | decide) (by decide) rfl (fun ls hl => ?_)
                    refine lv_goto (tgt := 58) hx hb dX8_walks_118 (by decide) ?_
                    exact ih58 (v26 + (1 : Int32)) (upd (upd o_27 ((16 : Int32) + v26).toNatClampNeg ((o ((16 : Int32) + i).toNatClampNeg) + (1 : Int32))) (3 : Int32).toNatClampNeg (((upd o_27 ((16 : Int32) + v26).toNatClampNeg ((o ((16 : Int32) + i).toNatClampNeg) + (1 : Int32))) (3 : Int32).toNatClampNeg) &&& (((1 : Int32) <<< (v26 &&& 31)) ^^^ (-1 : Int32)))) _ _ hP hD hS _ (lv_sub hl [0, 1, 2, 3, 4, 5] rfl) hF
        refine hL58 _ (fun v26 o_27 H locs hP hD hS ls hl hF => ?_) 20000 (0 : Int32) o _ _ hP hD hS _ (lv_sub hl [0, 1, 2, 3, 4, 5] rfl) hF
        refine lv_iconst (v := (1 : Int32)) hx hb dX8_walks_121 (by decide) ?_
        cases hF
        rw [hQ]
        exact xrz hC rfl hP hS dX8_walks_122
      · have hF := op_pos c24 hF
        refine lv_iconst (v := (0 : Int32)) hx hb dX8_walks_45 (by decide) ?_
        cases hF
        rw [hQ]
        exact xrz hC rfl hP hS dX8_walks_46

def f_X8_mends (m_law : (Nat → Int32)) (o : (Nat → Int32)) (u : Int32) : Option (Int32 × (Nat → Int32)) := (Option.bind (f_X8_under m_law o u) fun r1 => (if r1 = 0 then (if okb ((10 : Int32) + u) 26 = true then (some ((1 : Int32), (upd o ((10 : Int32) + u).toNatClampNeg (0 : Int32)))) else none) else (some ((0 : Int32), o))))

def rm_X8_mends : Room := { frames := 1, cells := 0, slots := 0, locals := 24 }

theorem pd_X8_mends : yX8_mends.cls ≠ "java/lang/invoke/MethodHandle" ∧ yX8_mends.cls ≠ "java/lang/invoke/VarHandle" ∧ (parseMethodDescriptor yX8_mends.desc).map (fun d => d.parameters.length) = some 2 := by decide +kernel

set_option maxHeartbeats 4000000 in
set_option maxRecDepth 100000 in
theorem c_X8_mends (l : Launch) (D : va_G) (cI cC cM : ClassId) (ax a_law a_of a_text a_told a_readLaw a_readNow a_now a_tried a_undos a_seenHour a_seenAt a_parts a_partsThen a_kept : Nat) (m_letterMany : Int32) (m_readAt : Int32) (m_undoMany : Int32) (m_undoAt : Int32) (m_seenMany : Int32) (m_keptMany : Int32) (m_law : (Nat → Int32)) (o : (Nat → Int32)) (u : Int32) (rr : Int32) (o' : (Nat → Int32)) (hF : f_X8_mends m_law o u = some (rr, o')) : CI l D cI cC cM yX8_mends wsX8_mends rm_X8_mends [.ref ax, .ref a_of, .int u] [(ax, .inr (8, [.int m_letterMany, .ref a_text, .int m_readAt, .ref a_told, .ref a_readLaw, .ref a_readNow, .ref a_law, .ref a_now, .ref a_tried, .int m_undoMany, .int m_undoAt, .ref a_undos, .int m_seenMany, .ref a_seenHour, .ref a_seenAt, .ref a_parts, .ref a_partsThen, .int m_keptMany, .ref a_kept])), (a_law, .inl (cI, 22, .inl m_law)), (a_of, .inl (cI, 26, .inl o))] [(ax, .inr (8, [.int m_letterMany, .ref a_text, .int m_readAt, .ref a_told, .ref a_readLaw, .ref a_readNow, .ref a_law, .ref a_now, .ref a_tried, .int m_undoMany, .int m_undoAt, .ref a_undos, .int m_seenMany, .ref a_seenHour, .ref a_seenAt, .ref a_parts, .ref a_partsThen, .int m_keptMany, .ref a_kept])), (a_law, .inl (cI, 22, .inl m_law)), (a_of, .inl (cI, 26, .inl o'))] rr := by
  refine CI.of (cc := cX8_mends) (nL := 3) (ret := (some .boolean)) (by decide) rfl (Nat.le_of_ble_eq_true rfl) ?_
  intro p e s m args below meth c A hC hP hD hS ls hl
  obtain ⟨hx, hb, hml, hown, hts, hr, hlk, hG, hA⟩ := id hC
  have hown : s.vm.findClass RX8 = some m.cls := hown
  have hK := hG.1
  have hl : lv_has ls 3 [(0, .ref ax), (1, .ref a_of), (2, .int u)] := hl
  obtain ⟨Q, hQ⟩ : ∃ Q, Q = MQ below (QI D [(ax, .inr (8, [.int m_letterMany, .ref a_text, .int m_readAt, .ref a_told, .ref a_readLaw, .ref a_readNow, .ref a_law, .ref a_now, .ref a_tried, .int m_undoMany, .int m_undoAt, .ref a_undos, .int m_seenMany, .ref a_seenHour, .ref a_seenAt, .ref a_parts, .ref a_partsThen, .int m_keptMany, .ref a_kept])), (a_law, .inl (cI, 22, .inl m_law)), (a_of, .inl (cI, 26, .inl o'))] rr A) args s 0 0 A := ⟨_, rfl⟩
  rw [← hQ]
  unfold f_X8_mends at hF
  refine lv_aload_n hx hb dX8_mends_0 rfl (lv_at hl 0 rfl) ?_
  refine lv_aload_n hx hb dX8_mends_1 rfl (lv_at hl 1 rfl) ?_
  refine lv_iload_n hx hb dX8_mends_2 rfl (lv_at hl 2 rfl) ?_
  obtain ⟨r1, hb2, hF⟩ := op_bind hF
  refine xVr (As := [.ref a_of, .int u]) (rest := []) hC hP hD hS [0, 1, 2] (c_X8_under l D cI cC cM ax a_law a_of a_text a_told a_readLaw a_readNow a_now a_tried a_undos a_seenHour a_seenAt a_parts a_partsThen a_kept m_letterMany m_readAt m_undoMany m_undoAt m_seenMany m_keptMany m_law o u r1 hb2) (cwV 2 hts gX8_mends_X8_under rfl rfl rfl ⟨rfl, pd_X8_under⟩ ⟨Nat.le_of_ble_eq_true rfl, Nat.le_of_ble_eq_true rfl⟩) rfl rfl 0 8 rfl rfl rfl rfl hl.1 rfl (Nat.le_of_ble_eq_true rfl) dX8_mends_3 ⟨Nat.zero_le _, Nat.zero_le _⟩ (fun H locs hP hS => ?_)
  refine lv_if_eq (tgt := 11) hx hb dX8_mends_6 (by decide) (fun c3 => ?_) (fun c3 => ?_)
  · have hF := op_pos c3 hF
    refine lv_aload_n hx hb dX8_mends_11 rfl (lv_at hl 1 rfl) ?_
    refine lv_bipush (v := (10 : Int32)) hx hb dX8_mends_12 (by decide) ?_
    refine lv_iload_n hx hb dX8_mends_14 rfl (lv_at hl 2 rfl) ?_
    refine lv_iadd hx hb dX8_mends_15 ?_
    refine lv_iconst (v := (0 : Int32)) hx hb dX8_mends_16 (by decide) ?_
    obtain ⟨o4, hF⟩ := op_ob hF
    refine va_iast hx hb hK hP hD hS 2 0 rfl rfl (okb_in o4) dX8_mends_17 (fun H locs hP hD hS => ?_)
    have hP : va_P D vwCl [(ax, .inr (8, [.int m_letterMany, .ref a_text, .int m_readAt, .ref a_told, .ref a_readLaw, .ref a_readNow, .ref a_law, .ref a_now, .ref a_tried, .int m_undoMany, .int m_undoAt, .ref a_undos, .int m_seenMany, .ref a_seenHour, .ref a_seenAt, .ref a_parts, .ref a_partsThen, .int m_keptMany, .ref a_kept])), (a_law, .inl (cI, 22, .inl m_law)), (a_of, .inl (cI, 26, .inl (upd o ((10 : Int32) + u).toNatClampNeg (0 : Int32))))] H := hP
    have hD : va_D A [(ax, .inr (8, [.int m_letterMany, .ref a_text, .int m_readAt, .ref a_told, .ref a_readLaw, .ref a_readNow, .ref a_law, .ref a_now, .ref a_tried, .int m_undoMany, .int m_undoAt, .ref a_undos, .int m_seenMany, .ref a_seenHour, .ref a_seenAt, .ref a_parts, .ref a_partsThen, .int m_keptMany, .ref a_kept])), (a_law, .inl (cI, 22, .inl m_law)), (a_of, .inl (cI, 26, .inl (upd o ((10 : Int32) + u).toNatClampNeg (0 : Int32))))] := hD
    refine lv_iconst (v := (1 : Int32)) hx hb dX8_mends_18 (by decide) ?_
    cases hF
    rw [hQ]
    exact xrz hC rfl hP hS dX8_mends_19
  · have hF := op_neg c3 hF
    refine lv_iconst (v := (0 : Int32)) hx hb dX8_mends_9 (by decide) ?_
    cases hF
    rw [hQ]
    exact xrz hC rfl hP hS dX8_mends_10
