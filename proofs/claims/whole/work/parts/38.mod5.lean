def f_X8_flecks_L54 (u : Int32) (m_now : (Nat → Int32)) (k54 : Int32 → (Nat → Int32) → Option (Int32 × (Nat → Int32) × (Nat → Int32))) : Nat → Int32 → (Nat → Int32) → Option (Int32 × (Nat → Int32) × (Nat → Int32))
  | 0, _, _ => none
  | nf54 + 1, v16, m_parts_17 => (if (24 : Int32) ≤ v16 then (k54 v16 m_parts_17) else (if okb ((4 : Int32) + u) 26 = true then (if v16 = (m_now ((4 : Int32) + u).toNatClampNeg) then (if okb v16 24 = true then (f_X8_flecks_L54 u m_now k54 nf54 (v16 + (1 : Int32)) (upd m_parts_17 v16.toNatClampNeg (1 : Int32))) else none) else (if okb v16 24 = true then (f_X8_flecks_L54 u m_now k54 nf54 (v16 + (1 : Int32)) (upd m_parts_17 v16.toNatClampNeg (0 : Int32))) else none)) else none))
theorem f_X8_flecks_L54_0 (u : Int32) (m_now : (Nat → Int32)) (k54 : Int32 → (Nat → Int32) → Option (Int32 × (Nat → Int32) × (Nat → Int32))) (v16 : Int32) (m_parts_17 : (Nat → Int32)) : f_X8_flecks_L54 u m_now k54 0 v16 m_parts_17 = none := rfl
theorem f_X8_flecks_L54_s (u : Int32) (m_now : (Nat → Int32)) (k54 : Int32 → (Nat → Int32) → Option (Int32 × (Nat → Int32) × (Nat → Int32))) (nf54 : Nat) (v16 : Int32) (m_parts_17 : (Nat → Int32)) : f_X8_flecks_L54 u m_now k54 (nf54 + 1) v16 m_parts_17 = (if (24 : Int32) ≤ v16 then (k54 v16 m_parts_17) else (if okb ((4 : Int32) + u) 26 = true then (if v16 = (m_now ((4 : Int32) + u).toNatClampNeg) then (if okb v16 24 = true then (f_X8_flecks_L54 u m_now k54 nf54 (v16 + (1 : Int32)) (upd m_parts_17 v16.toNatClampNeg (1 : Int32))) else none) else (if okb v16 24 = true then (f_X8_flecks_L54 u m_now k54 nf54 (v16 + (1 : Int32)) (upd m_parts_17 v16.toNatClampNeg (0 : Int32))) else none)) else none)) := rfl

def f_X8_flecks_L120 (r28 : Int32) (i : Int32) (m_parts_25 : (Nat → Int32)) (k120 : Int32 → (Nat → Int32) → Option (Int32 × (Nat → Int32) × (Nat → Int32))) : Nat → Int32 → (Nat → Int32) → Option (Int32 × (Nat → Int32) × (Nat → Int32))
  | 0, _, _ => none
  | nf120 + 1, v30, m_partsThen_31 => (if (24 : Int32) ≤ v30 then (k120 v30 m_partsThen_31) else (if okb (jrem ((v30 + (24 : Int32)) - r28) (24 : Int32)) 24 = true then (if okb v30 24 = true then (f_X8_flecks_L120 r28 i m_parts_25 k120 nf120 (v30 + (1 : Int32)) (upd m_partsThen_31 v30.toNatClampNeg ((i * (m_parts_25 (jrem ((v30 + (24 : Int32)) - r28) (24 : Int32)).toNatClampNeg)) + (((10 : Int32) - i) * (m_parts_25 v30.toNatClampNeg))))) else none) else none))
theorem f_X8_flecks_L120_0 (r28 : Int32) (i : Int32) (m_parts_25 : (Nat → Int32)) (k120 : Int32 → (Nat → Int32) → Option (Int32 × (Nat → Int32) × (Nat → Int32))) (v30 : Int32) (m_partsThen_31 : (Nat → Int32)) : f_X8_flecks_L120 r28 i m_parts_25 k120 0 v30 m_partsThen_31 = none := rfl
theorem f_X8_flecks_L120_s (r28 : Int32) (i : Int32) (m_parts_25 : (Nat → Int32)) (k120 : Int32 → (Nat → Int32) → Option (Int32 × (Nat → Int32) × (Nat → Int32))) (nf120 : Nat) (v30 : Int32) (m_partsThen_31 : (Nat → Int32)) : f_X8_flecks_L120 r28 i m_parts_25 k120 (nf120 + 1) v30 m_partsThen_31 = (if (24 : Int32) ≤ v30 then (k120 v30 m_partsThen_31) else (if okb (jrem ((v30 + (24 : Int32)) - r28) (24 : Int32)) 24 = true then (if okb v30 24 = true then (f_X8_flecks_L120 r28 i m_parts_25 k120 nf120 (v30 + (1 : Int32)) (upd m_partsThen_31 v30.toNatClampNeg ((i * (m_parts_25 (jrem ((v30 + (24 : Int32)) - r28) (24 : Int32)).toNatClampNeg)) + (((10 : Int32) - i) * (m_parts_25 v30.toNatClampNeg))))) else none) else none)) := rfl

def f_X8_flecks_L176 (m_partsThen_31 : (Nat → Int32)) (k176 : Int32 → (Nat → Int32) → Option (Int32 × (Nat → Int32) × (Nat → Int32))) : Nat → Int32 → (Nat → Int32) → Option (Int32 × (Nat → Int32) × (Nat → Int32))
  | 0, _, _ => none
  | nf176 + 1, v35, m_parts_36 => (if (24 : Int32) ≤ v35 then (k176 v35 m_parts_36) else (if okb v35 24 = true then (f_X8_flecks_L176 m_partsThen_31 k176 nf176 (v35 + (1 : Int32)) (upd m_parts_36 v35.toNatClampNeg (m_partsThen_31 v35.toNatClampNeg))) else none))
theorem f_X8_flecks_L176_0 (m_partsThen_31 : (Nat → Int32)) (k176 : Int32 → (Nat → Int32) → Option (Int32 × (Nat → Int32) × (Nat → Int32))) (v35 : Int32) (m_parts_36 : (Nat → Int32)) : f_X8_flecks_L176 m_partsThen_31 k176 0 v35 m_parts_36 = none := rfl
theorem f_X8_flecks_L176_s (m_partsThen_31 : (Nat → Int32)) (k176 : Int32 → (Nat → Int32) → Option (Int32 × (Nat → Int32) × (Nat → Int32))) (nf176 : Nat) (v35 : Int32) (m_parts_36 : (Nat → Int32)) : f_X8_flecks_L176 m_partsThen_31 k176 (nf176 + 1) v35 m_parts_36 = (if (24 : Int32) ≤ v35 then (k176 v35 m_parts_36) else (if okb v35 24 = true then (f_X8_flecks_L176 m_partsThen_31 k176 nf176 (v35 + (1 : Int32)) (upd m_parts_36 v35.toNatClampNeg (m_partsThen_31 v35.toNatClampNeg))) else none)) := rfl

def f_X8_flecks_L95 (n : Int32) (m_law : (Nat → Int32)) (u : Int32) (m_now : (Nat → Int32)) (i : Int32) (k95 : Int32 → Int32 → (Nat → Int32) → (Nat → Int32) → Option (Int32 × (Nat → Int32) × (Nat → Int32))) : Nat → Int32 → Int32 → (Nat → Int32) → (Nat → Int32) → Option (Int32 × (Nat → Int32) × (Nat → Int32))
  | 0, _, _, _, _ => none
  | nf95 + 1, v23, v24, m_parts_25, m_partsThen_26 => (if n ≤ v24 then (k95 v23 v24 m_parts_25 m_partsThen_26) else (Option.bind (f_X8_goesOn m_law u ((m_now (0 : Int32).toNatClampNeg) + v24)) fun r28 => (f_X8_flecks_L120 r28 i m_parts_25 (fun (v30 : Int32) (m_partsThen_31 : (Nat → Int32)) => (f_X8_flecks_L176 m_partsThen_31 (fun (v35 : Int32) (m_parts_36 : (Nat → Int32)) => (f_X8_flecks_L95 n m_law u m_now i k95 nf95 (v23 * (10 : Int32)) (v24 + (1 : Int32)) m_parts_36 m_partsThen_31)) 20000 (0 : Int32) m_parts_25)) 20000 (0 : Int32) m_partsThen_26)))
theorem f_X8_flecks_L95_0 (n : Int32) (m_law : (Nat → Int32)) (u : Int32) (m_now : (Nat → Int32)) (i : Int32) (k95 : Int32 → Int32 → (Nat → Int32) → (Nat → Int32) → Option (Int32 × (Nat → Int32) × (Nat → Int32))) (v23 : Int32) (v24 : Int32) (m_parts_25 : (Nat → Int32)) (m_partsThen_26 : (Nat → Int32)) : f_X8_flecks_L95 n m_law u m_now i k95 0 v23 v24 m_parts_25 m_partsThen_26 = none := rfl
theorem f_X8_flecks_L95_s (n : Int32) (m_law : (Nat → Int32)) (u : Int32) (m_now : (Nat → Int32)) (i : Int32) (k95 : Int32 → Int32 → (Nat → Int32) → (Nat → Int32) → Option (Int32 × (Nat → Int32) × (Nat → Int32))) (nf95 : Nat) (v23 : Int32) (v24 : Int32) (m_parts_25 : (Nat → Int32)) (m_partsThen_26 : (Nat → Int32)) : f_X8_flecks_L95 n m_law u m_now i k95 (nf95 + 1) v23 v24 m_parts_25 m_partsThen_26 = (if n ≤ v24 then (k95 v23 v24 m_parts_25 m_partsThen_26) else (Option.bind (f_X8_goesOn m_law u ((m_now (0 : Int32).toNatClampNeg) + v24)) fun r28 => (f_X8_flecks_L120 r28 i m_parts_25 (fun (v30 : Int32) (m_partsThen_31 : (Nat → Int32)) => (f_X8_flecks_L176 m_partsThen_31 (fun (v35 : Int32) (m_parts_36 : (Nat → Int32)) => (f_X8_flecks_L95 n m_law u m_now i k95 nf95 (v23 * (10 : Int32)) (v24 + (1 : Int32)) m_parts_36 m_partsThen_31)) 20000 (0 : Int32) m_parts_25)) 20000 (0 : Int32) m_partsThen_26))) := rfl

def f_X8_flecks (m_law : (Nat → Int32)) (m_now : (Nat → Int32)) (m_parts : (Nat → Int32)) (m_partsThen : (Nat → Int32)) (u : Int32) (h : Int32) (n : Int32) (i : Int32) (j : Int32) : Option (Int32 × (Nat → Int32) × (Nat → Int32)) := (Option.bind (f_X8_isParasol m_law u) fun r1 => (if r1 = 0 then (some ((-1 : Int32), m_parts, m_partsThen)) else (Option.bind (f_X8_isHour h) fun r4 => (if r4 = 0 then (some ((-1 : Int32), m_parts, m_partsThen)) else (Option.bind (f_X8_in n (0 : Int32) (8 : Int32)) fun r7 => (if r7 = 0 then (some ((-1 : Int32), m_parts, m_partsThen)) else (Option.bind (f_X8_in i (0 : Int32) (10 : Int32)) fun r10 => (if r10 = 0 then (some ((-1 : Int32), m_parts, m_partsThen)) else (Option.bind (f_X8_in j (0 : Int32) (1 : Int32)) fun r13 => (if r13 = 0 then (some ((-1 : Int32), m_parts, m_partsThen)) else (f_X8_flecks_L54 u m_now (fun (v16 : Int32) (m_parts_17 : (Nat → Int32)) => (f_X8_flecks_L95 n m_law u m_now i (fun (v23 : Int32) (v24 : Int32) (m_parts_25 : (Nat → Int32)) (m_partsThen_26 : (Nat → Int32)) => (if okb h 24 = true then (Option.bind (f_X8_common (m_parts_25 h.toNatClampNeg) v23) fun r40 => (if j = 0 then (if r40 = 0 then none else (some (((m_parts_25 h.toNatClampNeg) / r40), m_parts_25, m_partsThen_26))) else (if r40 = 0 then none else (some ((v23 / r40), m_parts_25, m_partsThen_26))))) else none)) 20000 (1 : Int32) (0 : Int32) m_parts_17 m_partsThen)) 20000 (0 : Int32) m_parts)))))))))))

def rm_X8_flecks : Room := { frames := 2, cells := 0, slots := 0, locals := 43 }

theorem pd_X8_flecks : yX8_flecks.cls ≠ "java/lang/invoke/MethodHandle" ∧ yX8_flecks.cls ≠ "java/lang/invoke/VarHandle" ∧ (parseMethodDescriptor yX8_flecks.desc).map (fun d => d.parameters.length) = some 5 := by decide +kernel

set_option maxHeartbeats 4000000 in
set_option maxRecDepth 100000 in
theorem c_X8_flecks (l : Launch) (D : va_G) (cI cC cM : ClassId) (ax a_law a_now a_parts a_partsThen a_text a_told a_readLaw a_readNow a_tried a_undos a_seenHour a_seenAt a_kept : Nat) (m_letterMany : Int32) (m_readAt : Int32) (m_undoMany : Int32) (m_undoAt : Int32) (m_seenMany : Int32) (m_keptMany : Int32) (m_law : (Nat → Int32)) (m_now : (Nat → Int32)) (m_parts : (Nat → Int32)) (m_partsThen : (Nat → Int32)) (u : Int32) (h : Int32) (n : Int32) (i : Int32) (j : Int32) (rr : Int32) (m_parts' : (Nat → Int32)) (m_partsThen' : (Nat → Int32)) (hF : f_X8_flecks m_law m_now m_parts m_partsThen u h n i j = some (rr, m_parts', m_partsThen')) : CI l D cI cC cM yX8_flecks wsX8_flecks rm_X8_flecks [.ref ax, .int u, .int h, .int n, .int i, .int j] [(ax, .inr (8, [.int m_letterMany, .ref a_text, .int m_readAt, .ref a_told, .ref a_readLaw, .ref a_readNow, .ref a_law, .ref a_now, .ref a_tried, .int m_undoMany, .int m_undoAt, .ref a_undos, .int m_seenMany, .ref a_seenHour, .ref a_seenAt, .ref a_parts, .ref a_partsThen, .int m_keptMany, .ref a_kept])), (a_law, .inl (cI, 22, .inl m_law)), (a_now, .inl (cI, 26, .inl m_now)), (a_parts, .inl (cI, 24, .inl m_parts)), (a_partsThen, .inl (cI, 24, .inl m_partsThen))] [(ax, .inr (8, [.int m_letterMany, .ref a_text, .int m_readAt, .ref a_told, .ref a_readLaw, .ref a_readNow, .ref a_law, .ref a_now, .ref a_tried, .int m_undoMany, .int m_undoAt, .ref a_undos, .int m_seenMany, .ref a_seenHour, .ref a_seenAt, .ref a_parts, .ref a_partsThen, .int m_keptMany, .ref a_kept])), (a_law, .inl (cI, 22, .inl m_law)), (a_now, .inl (cI, 26, .inl m_now)), (a_parts, .inl (cI, 24, .inl m_parts')), (a_partsThen, .inl (cI, 24, .inl m_partsThen'))] rr := by
  refine CI.of (cc := cX8_flecks) (nL := 10) (ret := (some .int)) (by decide) rfl (Nat.le_of_ble_eq_true rfl) ?_
  intro p e s m args below meth c A hC hP hD hS ls hl
  obtain ⟨hx, hb, hml, hown, hts, hr, hlk, hG, hA⟩ := id hC
  have hown : s.vm.findClass RX8 = some m.cls := hown
  have hK := hG.1
  have hl : lv_has ls 10 [(0, .ref ax), (1, .int u), (2, .int h), (3, .int n), (4, .int i), (5, .int j)] := hl
  have k_f40 := hts (.fieldLink RX8 40 "ParasolHoursModel" "parts" "[I") (List.mem_of_getElem? (i := 1) rfl)
  have k_f25 := hts (.fieldLink RX8 25 "ParasolHoursModel" "now" "[I") (List.mem_of_getElem? (i := 2) rfl)
  have k_f43 := hts (.fieldLink RX8 43 "ParasolHoursModel" "partsThen" "[I") (List.mem_of_getElem? (i := 3) rfl)
  have iX8 : ∀ w ∈ wsX80, w ∈ wsX8_flecks := by decide +kernel
  obtain ⟨Q, hQ⟩ : ∃ Q, Q = MQ below (QI D [(ax, .inr (8, [.int m_letterMany, .ref a_text, .int m_readAt, .ref a_told, .ref a_readLaw, .ref a_readNow, .ref a_law, .ref a_now, .ref a_tried, .int m_undoMany, .int m_undoAt, .ref a_undos, .int m_seenMany, .ref a_seenHour, .ref a_seenAt, .ref a_parts, .ref a_partsThen, .int m_keptMany, .ref a_kept])), (a_law, .inl (cI, 22, .inl m_law)), (a_now, .inl (cI, 26, .inl m_now)), (a_parts, .inl (cI, 24, .inl m_parts')), (a_partsThen, .inl (cI, 24, .inl m_partsThen'))] rr A) args s 0 0 A := ⟨_, rfl⟩
  rw [← hQ]
  unfold f_X8_flecks at hF
  refine lv_aload_n hx hb dX8_flecks_0 rfl (lv_at hl 0 rfl) ?_
  refine lv_iload_n hx hb dX8_flecks_1 rfl (lv_at hl 1 rfl) ?_
  obtain ⟨r1, hb2, hF⟩ := op_bind hF
  refine xVr (As := [.int u]) (rest := []) hC hP hD hS [0, 1] (c_X8_isParasol l D cI cC cM ax a_law a_text a_told a_readLaw a_readNow a_now a_tried a_undos a_seenHour a_seenAt a_parts a_partsThen a_kept m_letterMany m_readAt m_undoMany m_undoAt m_seenMany m_keptMany m_law u r1 hb2) (cwV 1 hts gX8_flecks_X8_isParasol rfl rfl rfl ⟨rfl, pd_X8_isParasol⟩ ⟨Nat.le_of_ble_eq_true rfl, Nat.le_of_ble_eq_true rfl⟩) rfl rfl 0 8 rfl rfl rfl rfl hl.1 rfl (Nat.le_of_ble_eq_true rfl) dX8_flecks_2 ⟨Nat.zero_le _, Nat.zero_le _⟩ (fun H locs hP hS => ?_)
  refine lv_if_eq (tgt := 46) hx hb dX8_flecks_5 (by decide) (fun c3 => ?_) (fun c3 => ?_)
  · have hF := op_pos c3 hF
    refine lv_iconst (v := (-1 : Int32)) hx hb dX8_flecks_46 (by decide) ?_
    cases hF
    rw [hQ]
    exact xri hC hP hS dX8_flecks_47
  · have hF := op_neg c3 hF
    refine lv_iload_n hx hb dX8_flecks_8 rfl (lv_at hl 2 rfl) ?_
    obtain ⟨r4, hb5, hF⟩ := op_bind hF
    refine xSr (As := [.int h]) (rest := []) hC hP hD hS [] (c_X8_isHour l D cI cC cM h r4 hb5) (va_cwS 1 hts gX8_flecks_X8_isHour rfl rfl rfl pd_X8_isHour ⟨Nat.le_of_ble_eq_true rfl, Nat.le_of_ble_eq_true rfl⟩) rfl rfl rfl hl.1 rfl (Nat.le_of_ble_eq_true rfl) dX8_flecks_9 ⟨Nat.zero_le _, Nat.zero_le _⟩ (fun H locs hP hS => ?_)
    refine lv_if_eq (tgt := 46) hx hb dX8_flecks_12 (by decide) (fun c6 => ?_) (fun c6 => ?_)
    · have hF := op_pos c6 hF
      refine lv_iconst (v := (-1 : Int32)) hx hb dX8_flecks_46 (by decide) ?_
      cases hF
      rw [hQ]
      exact xri hC hP hS dX8_flecks_47
    · have hF := op_neg c6 hF
      refine lv_iload_n hx hb dX8_flecks_15 rfl (lv_at hl 3 rfl) ?_
      refine lv_iconst (v := (0 : Int32)) hx hb dX8_flecks_16 (by decide) ?_
      refine lv_bipush (v := (8 : Int32)) hx hb dX8_flecks_17 (by decide) ?_
      obtain ⟨r7, hb8, hF⟩ := op_bind hF
      refine xSr (As := [.int n, .int (0 : Int32), .int (8 : Int32)]) (rest := []) hC hP hD hS [] (c_X8_in l D cI cC cM n (0 : Int32) (8 : Int32) r7 hb8) (va_cwS 3 hts gX8_flecks_X8_in rfl rfl rfl pd_X8_in ⟨Nat.le_of_ble_eq_true rfl, Nat.le_of_ble_eq_true rfl⟩) rfl rfl rfl hl.1 rfl (Nat.le_of_ble_eq_true rfl) dX8_flecks_19 ⟨Nat.zero_le _, Nat.zero_le _⟩ (fun H locs hP hS => ?_)
      refine lv_if_eq (tgt := 46) hx hb dX8_flecks_22 (by decide) (fun c9 => ?_) (fun c9 => ?_)
      · have hF := op_pos c9 hF
        refine lv_iconst (v := (-1 : Int32)) hx hb dX8_flecks_46 (by decide) ?_
        cases hF
        rw [hQ]
        exact xri hC hP hS dX8_flecks_47
      · have hF := op_neg c9 hF
        refine lv_iload hx hb dX8_flecks_25 (lv_at hl 4 rfl) ?_
        refine lv_iconst (v := (0 : Int32)) hx hb dX8_flecks_27 (by decide) ?_
        refine lv_bipush (v := (10 : Int32)) hx hb dX8_flecks_28 (by decide) ?_
        obtain ⟨r10, hb11, hF⟩ := op_bind hF
        refine xSr (As := [.int i, .int (0 : Int32), .int (10 : Int32)]) (rest := []) hC hP hD hS [] (c_X8_in l D cI cC cM i (0 : Int32) (10 : Int32) r10 hb11) (va_cwS 3 hts gX8_flecks_X8_in rfl rfl rfl pd_X8_in ⟨Nat.le_of_ble_eq_true rfl, Nat.le_of_ble_eq_true rfl⟩) rfl rfl rfl hl.1 rfl (Nat.le_of_ble_eq_true rfl) dX8_flecks_30 ⟨Nat.zero_le _, Nat.zero_le _⟩ (fun H locs hP hS => ?_)
        refine lv_if_eq (tgt := 46) hx hb dX8_flecks_33 (by decide) (fun c12 => ?_) (fun c12 => ?_)
        · have hF := op_pos c12 hF
          refine lv_iconst (v := (-1 : Int32)) hx hb dX8_flecks_46 (by decide) ?_
          cases hF
          rw [hQ]
          exact xri hC hP hS dX8_flecks_47
        · have hF := op_neg c12 hF
          refine lv_iload hx hb dX8_flecks_36 (lv_at hl 5 rfl) ?_
          refine lv_iconst (v := (0 : Int32)) hx hb dX8_flecks_38 (by decide) ?_
          refine lv_iconst (v := (1 : Int32)) hx hb dX8_flecks_39 (by decide) ?_
          obtain ⟨r13, hb14, hF⟩ := op_bind hF
          refine xSr (As := [.int j, .int (0 : Int32), .int (1 : Int32)]) (rest := []) hC hP hD hS [] (c_X8_in l D cI cC cM j (0 : Int32) (1 : Int32) r13 hb14) (va_cwS 3 hts gX8_flecks_X8_in rfl rfl rfl pd_X8_in ⟨Nat.le_of_ble_eq_true rfl, Nat.le_of_ble_eq_true rfl⟩) rfl rfl rfl hl.1 rfl (Nat.le_of_ble_eq_true rfl) dX8_flecks_40 ⟨Nat.zero_le _, Nat.zero_le _⟩ (fun H locs hP hS => ?_)
          refine lv_if_ne (tgt := 48) hx hb dX8_flecks_43 (by decide) (fun c15 => ?_) (fun c15 => ?_)
          · have hF := op_neg c15 hF
            refine lv_iconst (v := (1 : Int32)) hx hb dX8_flecks_48 (by decide) ?_
            refine lv_istore (lv' := [(6, .int (1 : Int32)), (0, .ref ax), (1, .int u), (2, .int h), (3, .int n), (4, .int i), (5, .int j)]) hx hb dX8_flecks_49 hl (by decide) rfl (fun ls hl => ?_)
            refine lv_iconst (v := (0 : Int32)) hx hb dX8_flecks_51 (by decide) ?_
            refine lv_istore (lv' := [(7, .int (0 : Int32)), (6, .int (1 : Int32)), (0, .ref ax), (1, .int u), (2, .int h), (3, .int n), (4, .int i), (5, .int j)]) hx hb dX8_flecks_52 hl (by decide) rfl (fun ls hl => ?_)
            have hL54 : ∀ (k54 : Int32 → (Nat → Int32) → Option (Int32 × (Nat → Int32) × (Nat → Int32))), (∀ (v16 : Int32) (m_parts_17 : (Nat → Int32)) (H : Heap) (locs : List Loc), va_P D vwCl [(ax, .inr (8, [.int m_letterMany, .ref a_text, .int m_readAt, .ref a_told, .ref a_readLaw, .ref a_readNow, .ref a_law, .ref a_now, .ref a_tried, .int m_undoMany, .int m_undoAt, .ref a_undos, .int m_seenMany, .ref a_seenHour, .ref a_seenAt, .ref a_parts, .ref a_partsThen, .int m_keptMany, .ref a_kept])), (a_law, .inl (cI, 22, .inl m_law)), (a_now, .inl (cI, 26, .inl m_now)), (a_parts, .inl (cI, 24, .inl m_parts_17)), (a_partsThen, .inl (cI, 24, .inl m_partsThen))] H → va_D A [(ax, .inr (8, [.int m_letterMany, .ref a_text, .int m_readAt, .ref a_told, .ref a_readLaw, .ref a_readNow, .ref a_law, .ref a_now, .ref a_tried, .int m_undoMany, .int m_undoAt, .ref a_undos, .int m_seenMany, .ref a_seenHour, .ref a_seenAt, .ref a_parts, .ref a_partsThen, .int m_keptMany, .ref a_kept])), (a_law, .inl (cI, 22, .inl m_law)), (a_now, .inl (cI, 26, .inl m_now)), (a_parts, .inl (cI, 24, .inl m_parts_17)), (a_partsThen, .inl (cI, 24, .inl m_partsThen))] → va_S A s.heap H locs → ∀ ls : Array Slot, lv_has ls 10 [(6, .int (1 : Int32)), (0, .ref ax), (1, .int u), (2, .int h), (3, .int n), (4, .int i), (5, .int j)] → k54 v16 m_parts_17 = some (rr, m_parts', m_partsThen') → W p l e rm_X8_flecks s m args below meth c H locs 0 0 Q (F0 m 92 ls [])) → ∀ (nf54 : Nat) (v16 : Int32) (m_parts_17 : (Nat → Int32)) (H : Heap) (locs : List Loc), va_P D vwCl [(ax, .inr (8, [.int m_letterMany, .ref a_text, .int m_readAt, .ref a_told, .ref a_readLaw, .ref a_readNow, .ref a_law, .ref a_now, .ref a_tried, .int m_undoMany, .int m_undoAt, .ref a_undos, .int m_seenMany, .ref a_seenHour, .ref a_seenAt, .ref a_parts, .ref a_partsThen, .int m_keptMany, .ref a_kept])), (a_law, .inl (cI, 22, .inl m_law)), (a_now, .inl (cI, 26, .inl m_now)), (a_parts, .inl (cI, 24, .inl m_parts_17)), (a_partsThen, .inl (cI, 24, .inl m_partsThen))] H → va_D A [(ax, .inr (8, [.int m_letterMany, .ref a_text, .int m_readAt, .ref a_told, .ref a_readLaw, .ref a_readNow, .ref a_law, .ref a_now, .ref a_tried, .int m_undoMany, .int m_undoAt, .ref a_undos, .int m_seenMany, .ref a_seenHour, .ref a_seenAt, .ref a_parts, .ref a_partsThen, .int m_keptMany, .ref a_kept])), (a_law, .inl (cI, 22, .inl m_law)), (a_now, .inl (cI, 26, .inl m_now)), (a_parts, .inl (cI, 24, .inl m_parts_17)), (a_partsThen, .inl (cI, 24, .inl m_partsThen))] → va_S A s.heap H locs → ∀ ls : Array Slot, lv_has ls 10 [(7, .int v16), (6, .int (1 : Int32)), (0, .ref ax), (1, .int u), (2, .int h), (3, .int n), (4, .int i), (5, .int j)] → f_X8_flecks_L54 u m_now k54 nf54 v16 m_parts_17 = some (rr, m_parts', m_partsThen') → W p l e rm_X8_flecks s m args below meth c H locs 0 0 Q (F0 m 54 ls []) := by
              intro k54 hk54 nf54
              induction nf54 with
              | zero =>
                intro v16 m_parts_17 H locs hP hD hS ls hl hF
                rw [f_X8_flecks_L54_0] at hF
                cases hF
              | succ nf54 ih54 =>
                intro v16 m_parts_17 H locs hP hD hS ls hl hF
                rw [f_X8_flecks_L54_s] at hF
                refine lv_iload hx hb dX8_flecks_54 (lv_at hl 0 rfl) ?_
                refine lv_bipush (v := (24 : Int32)) hx hb dX8_flecks_56 (by decide) ?_
                refine lv_icmp_ge (tgt := 92) hx hb dX8_flecks_58 (by decide) (fun c18 => ?_) (fun c18 => ?_)
                · have hF := op_pos c18 hF
                  exact hk54 v16 m_parts_17 _ _ hP hD hS _ (lv_sub hl [1, 2, 3, 4, 5, 6, 7] rfl) hF
                · have hF := op_neg c18 hF
                  refine lv_aload_n hx hb dX8_flecks_61 rfl (lv_at hl 2 rfl) ?_
                  refine va_get (D := D) (ci := 8) (v := .ref a_parts) (C := RX8) (T := TX8) (N := 19) hx hb hts iX8 hown hK hP 0 rfl rfl 15 (by decide) k_f40 (fun _ h9 => h9) rfl dX8_flecks_62 ?_
                  refine lv_iload hx hb dX8_flecks_65 (lv_at hl 0 rfl) ?_
                  refine lv_iload hx hb dX8_flecks_67 (lv_at hl 0 rfl) ?_
                  refine lv_aload_n hx hb dX8_flecks_69 rfl (lv_at hl 2 rfl) ?_
                  refine va_get (D := D) (ci := 8) (v := .ref a_now) (C := RX8) (T := TX8) (N := 19) hx hb hts iX8 hown hK hP 0 rfl rfl 7 (by decide) k_f25 (fun _ h9 => h9) rfl dX8_flecks_70 ?_
                  refine lv_iconst (v := (4 : Int32)) hx hb dX8_flecks_73 (by decide) ?_
                  refine lv_iload_n hx hb dX8_flecks_74 rfl (lv_at hl 3 rfl) ?_
                  refine lv_iadd hx hb dX8_flecks_75 ?_
                  obtain ⟨o19, hF⟩ := op_ob hF
                  refine va_iald hx hb hK hP 2 0 rfl rfl (okb_in o19) dX8_flecks_76 ?_
                  refine lv_icmp_ne (tgt := 84) hx hb dX8_flecks_77 (by decide) (fun c20 => ?_) (fun c20 => ?_)
                  · have hF := op_neg c20 hF
                    refine lv_iconst (v := (0 : Int32)) hx hb dX8_flecks_84 (by decide) ?_
                    obtain ⟨o21, hF⟩ := op_ob hF
                    refine va_iast hx hb hK hP hD hS 3 0 rfl rfl (okb_in o21) dX8_flecks_85 (fun H locs hP hD hS => ?_)
                    have hP : va_P D vwCl [(ax, .inr (8, [.int m_letterMany, .ref a_text, .int m_readAt, .ref a_told, .ref a_readLaw, .ref a_readNow, .ref a_law, .ref a_now, .ref a_tried, .int m_undoMany, .int m_undoAt, .ref a_undos, .int m_seenMany, .ref a_seenHour, .ref a_seenAt, .ref a_parts, .ref a_partsThen, .int m_keptMany, .ref a_kept])), (a_law, .inl (cI, 22, .inl m_law)), (a_now, .inl (cI, 26, .inl m_now)), (a_parts, .inl (cI, 24, .inl (upd m_parts_17 v16.toNatClampNeg (0 : Int32)))), (a_partsThen, .inl (cI, 24, .inl m_partsThen))] H := hP
                    have hD : va_D A [(ax, .inr (8, [.int m_letterMany, .ref a_text, .int m_readAt, .ref a_told, .ref a_readLaw, .ref a_readNow, .ref a_law, .ref a_now, .ref a_tried, .int m_undoMany, .int m_undoAt, .ref a_undos, .int m_seenMany, .ref a_seenHour, .ref a_seenAt, .ref a_parts, .ref a_partsThen, .int m_keptMany, .ref a_kept])), (a_law, .inl (cI, 22, .inl m_law)), (a_now, .inl (cI, 26, .inl m_now)), (a_parts, .inl (cI, 24, .inl (upd m_parts_17 v16.toNatClampNeg (0 : Int32)))), (a_partsThen, .inl (cI, 24, .inl m_partsThen))] := hD
                    refine lv_iinc (v := (v16 + (1 : Int32))) (lv' := [(7, .int (v16 + (1 : Int32))), (6, .int (1 : Int32)), (0, .ref ax), (1, .int u), (2, .int h), (3, .int n), (4, .int i), (5, .int j)]) hx hb dX8_flecks_86 hl (k := 0) rfl (by first | rfl | decide) (by decide) rfl (fun ls hl => ?_)
                    refine lv_goto (tgt := 54) hx hb dX8_flecks_89 (by decide) ?_
                    exact ih54 (v16 + (1 : Int32)) (upd m_parts_17 v16.toNatClampNeg (0 : Int32)) _ _ hP hD hS _ (lv_sub hl [0, 1, 2, 3, 4, 5, 6, 7] rfl) hF
                  · have hF := op_pos c20 hF
                    refine lv_iconst (v := (1 : Int32)) hx hb dX8_flecks_80 (by decide) ?_
                    refine lv_goto (tgt := 85) hx hb dX8_flecks_81 (by decide) ?_
                    obtain ⟨o22, hF⟩ := op_ob hF
                    refine va_iast hx hb hK hP hD hS 3 0 rfl rfl (okb_in o22) dX8_flecks_85 (fun H locs hP hD hS => ?_)
                    have hP : va_P D vwCl [(ax, .inr (8, [.int m_letterMany, .ref a_text, .int m_readAt, .ref a_told, .ref a_readLaw, .ref a_readNow, .ref a_law, .ref a_now, .ref a_tried, .int m_undoMany, .int m_undoAt, .ref a_undos, .int m_seenMany, .ref a_seenHour, .ref a_seenAt, .ref a_parts, .ref a_partsThen, .int m_keptMany, .ref a_kept])), (a_law, .inl (cI, 22, .inl m_law)), (a_now, .inl (cI, 26, .inl m_now)), (a_parts, .inl (cI, 24, .inl (upd m_parts_17 v16.toNatClampNeg (1 : Int32)))), (a_partsThen, .inl (cI, 24, .inl m_partsThen))] H := hP
                    have hD : va_D A [(ax, .inr (8, [.int m_letterMany, .ref a_text, .int m_readAt, .ref a_told, .ref a_readLaw, .ref a_readNow, .ref a_law, .ref a_now, .ref a_tried, .int m_undoMany, .int m_undoAt, .ref a_undos, .int m_seenMany, .ref a_seenHour, .ref a_seenAt, .ref a_parts, .ref a_partsThen, .int m_keptMany, .ref a_kept])), (a_law, .inl (cI, 22, .inl m_law)), (a_now, .inl (cI, 26, .inl m_now)), (a_parts, .inl (cI, 24, .inl (upd m_parts_17 v16.toNatClampNeg (1 : Int32)))), (a_partsThen, .inl (cI, 24, .inl m_partsThen))] := hD
                    refine lv_iinc (v := (v16 + (1 : Int32))) (lv' := [(7, .int (v16 + (1 : Int32))), (6, .int (1 : Int32)), (0, .ref ax), (1, .int u), (2, .int h), (3, .int n), (4, .int i), (5, .int j)]) hx hb dX8_flecks_86 hl (k := 0) rfl (by first | rfl | decide) (by decide) rfl (fun ls hl => ?_)
                    refine lv_goto (tgt := 54) hx hb dX8_flecks_89 (by decide) ?_
                    exact ih54 (v16 + (1 : Int32)) (upd m_parts_17 v16.toNatClampNeg (1 : Int32)) _ _ hP hD hS _ (lv_sub hl [0, 1, 2, 3, 4, 5, 6, 7] rfl) hF
            refine hL54 _ (fun v16 m_parts_17 H locs hP hD hS ls hl hF => ?_) 20000 (0 : Int32) m_parts _ _ hP hD hS _ (lv_sub hl [0, 1, 2, 3, 4, 5, 6, 7] rfl) hF
            refine lv_iconst (v := (0 : Int32)) hx hb dX8_flecks_92 (by decide) ?_
            refine lv_istore (lv' := [(7, .int (0 : Int32)), (6, .int (1 : Int32)), (0, .ref ax), (1, .int u), (2, .int h), (3, .int n), (4, .int i), (5, .int j)]) hx hb dX8_flecks_93 hl (by decide) rfl (fun ls hl => ?_)
            have hL95 : ∀ (k95 : Int32 → Int32 → (Nat → Int32) → (Nat → Int32) → Option (Int32 × (Nat → Int32) × (Nat → Int32))), (∀ (v23 : Int32) (v24 : Int32) (m_parts_25 : (Nat → Int32)) (m_partsThen_26 : (Nat → Int32)) (H : Heap) (locs : List Loc), va_P D vwCl [(ax, .inr (8, [.int m_letterMany, .ref a_text, .int m_readAt, .ref a_told, .ref a_readLaw, .ref a_readNow, .ref a_law, .ref a_now, .ref a_tried, .int m_undoMany, .int m_undoAt, .ref a_undos, .int m_seenMany, .ref a_seenHour, .ref a_seenAt, .ref a_parts, .ref a_partsThen, .int m_keptMany, .ref a_kept])), (a_law, .inl (cI, 22, .inl m_law)), (a_now, .inl (cI, 26, .inl m_now)), (a_parts, .inl (cI, 24, .inl m_parts_25)), (a_partsThen, .inl (cI, 24, .inl m_partsThen_26))] H → va_D A [(ax, .inr (8, [.int m_letterMany, .ref a_text, .int m_readAt, .ref a_told, .ref a_readLaw, .ref a_readNow, .ref a_law, .ref a_now, .ref a_tried, .int m_undoMany, .int m_undoAt, .ref a_undos, .int m_seenMany, .ref a_seenHour, .ref a_seenAt, .ref a_parts, .ref a_partsThen, .int m_keptMany, .ref a_kept])), (a_law, .inl (cI, 22, .inl m_law)), (a_now, .inl (cI, 26, .inl m_now)), (a_parts, .inl (cI, 24, .inl m_parts_25)), (a_partsThen, .inl (cI, 24, .inl m_partsThen_26))] → va_S A s.heap H locs → ∀ ls : Array Slot, lv_has ls 10 [(6, .int v23), (0, .ref ax), (2, .int h), (5, .int j)] → k95 v23 v24 m_parts_25 m_partsThen_26 = some (rr, m_parts', m_partsThen') → W p l e rm_X8_flecks s m args below meth c H locs 0 0 Q (F0 m 216 ls [])) → ∀ (nf95 : Nat) (v23 : Int32) (v24 : Int32) (m_parts_25 : (Nat → Int32)) (m_partsThen_26 : (Nat → Int32)) (H : Heap) (locs : List Loc), va_P D vwCl [(ax, .inr (8, [.int m_letterMany, .ref a_text, .int m_readAt, .ref a_told, .ref a_readLaw, .ref a_readNow, .ref a_law, .ref a_now, .ref a_tried, .int m_undoMany, .int m_undoAt, .ref a_undos, .int m_seenMany, .ref a_seenHour, .ref a_seenAt, .ref a_parts, .ref a_partsThen, .int m_keptMany, .ref a_kept])), (a_law, .inl (cI, 22, .inl m_law)), (a_now, .inl (cI, 26, .inl m_now)), (a_parts, .inl (cI, 24, .inl m_parts_25)), (a_partsThen, .inl (cI, 24, .inl m_partsThen_26))] H → va_D A [(ax, .inr (8, [.int m_letterMany, .ref a_text, .int m_readAt, .ref a_told, .ref a_readLaw, .ref a_readNow, .ref a_law, .ref a_now, .ref a_tried, .int m_undoMany, .int m_undoAt, .ref a_undos, .int m_seenMany, .ref a_seenHour, .ref a_seenAt, .ref a_parts, .ref a_partsThen, .int m_keptMany, .ref a_kept])), (a_law, .inl (cI, 22, .inl m_law)), (a_now, .inl (cI, 26, .inl m_now)), (a_parts, .inl (cI, 24, .inl m_parts_25)), (a_partsThen, .inl (cI, 24, .inl m_partsThen_26))] → va_S A s.heap H locs → ∀ ls : Array Slot, lv_has ls 10 [(7, .int v24), (6, .int v23), (0, .ref ax), (1, .int u), (2, .int h), (3, .int n), (4, .int i), (5, .int j)] → f_X8_flecks_L95 n m_law u m_now i k95 nf95 v23 v24 m_parts_25 m_partsThen_26 = some (rr, m_parts', m_partsThen') → W p l e rm_X8_flecks s m args below meth c H locs 0 0 Q (F0 m 95 ls []) := by
              intro k95 hk95 nf95
              induction nf95 with
              | zero =>
                intro v23 v24 m_parts_25 m_partsThen_26 H locs hP hD hS ls hl hF
                rw [f_X8_flecks_L95_0] at hF
                cases hF
              | succ nf95 ih95 =>
                intro v23 v24 m_parts_25 m_partsThen_26 H locs hP hD hS ls hl hF
                rw [f_X8_flecks_L95_s] at hF
                refine lv_iload hx hb dX8_flecks_95 (lv_at hl 0 rfl) ?_
                refine lv_iload_n hx hb dX8_flecks_97 rfl (lv_at hl 5 rfl) ?_
                refine lv_icmp_ge (tgt := 216) hx hb dX8_flecks_98 (by decide) (fun c27 => ?_) (fun c27 => ?_)
                · have hF := op_pos c27 hF
                  exact hk95 v23 v24 m_parts_25 m_partsThen_26 _ _ hP hD hS _ (lv_sub hl [1, 2, 4, 7] rfl) hF
                · have hF := op_neg c27 hF
                  refine lv_aload_n hx hb dX8_flecks_101 rfl (lv_at hl 2 rfl) ?_
                  refine lv_iload_n hx hb dX8_flecks_102 rfl (lv_at hl 3 rfl) ?_
                  refine lv_aload_n hx hb dX8_flecks_103 rfl (lv_at hl 2 rfl) ?_
                  refine va_get (D := D) (ci := 8) (v := .ref a_now) (C := RX8) (T := TX8) (N := 19) hx hb hts iX8 hown hK hP 0 rfl rfl 7 (by decide) k_f25 (fun _ h9 => h9) rfl dX8_flecks_104 ?_
                  refine lv_iconst (v := (0 : Int32)) hx hb dX8_flecks_107 (by decide) ?_
                  refine va_iald hx hb hK hP 2 0 rfl rfl (okb_in (by decide)) dX8_flecks_108 ?_
                  refine lv_iload hx hb dX8_flecks_109 (lv_at hl 0 rfl) ?_
                  refine lv_iadd hx hb dX8_flecks_111 ?_
                  obtain ⟨r28, hb29, hF⟩ := op_bind hF
                  refine xVr (As := [.int u, .int ((m_now (0 : Int32).toNatClampNeg) + v24)]) (rest := []) hC hP hD hS [0, 1] (c_X8_goesOn l D cI cC cM ax a_law a_text a_told a_readLaw a_readNow a_now a_tried a_undos a_seenHour a_seenAt a_parts a_partsThen a_kept m_letterMany m_readAt m_undoMany m_undoAt m_seenMany m_keptMany m_law u ((m_now (0 : Int32).toNatClampNeg) + v24) r28 hb29) (cwV 2 hts gX8_flecks_X8_goesOn rfl rfl rfl ⟨rfl, pd_X8_goesOn⟩ ⟨Nat.le_of_ble_eq_true rfl, Nat.le_of_ble_eq_true rfl⟩) rfl rfl 0 8 rfl rfl rfl rfl hl.1 rfl (Nat.le_of_ble_eq_true rfl) dX8_flecks_112 ⟨Nat.zero_le _, Nat.zero_le _⟩ (fun H locs hP hS => ?_)
                  refine lv_istore (lv' := [(8, .int r28), (7, .int v24), (6, .int v23), (0, .ref ax), (1, .int u), (2, .int h), (3, .int n), (4, .int i), (5, .int j)]) hx hb dX8_flecks_115 hl (by decide) rfl (fun ls hl => ?_)
                  refine lv_iconst (v := (0 : Int32)) hx hb dX8_flecks_117 (by decide) ?_
                  refine lv_istore (lv' := [(9, .int (0 : Int32)), (8, .int r28), (7, .int v24), (6, .int v23), (0, .ref ax), (1, .int u), (2, .int h), (3, .int n), (4, .int i), (5, .int j)]) hx hb dX8_flecks_118 hl (by decide) rfl (fun ls hl => ?_)
                  have hL120 : ∀ (k120 : Int32 → (Nat → Int32) → Option (Int32 × (Nat → Int32) × (Nat → Int32))), (∀ (v30 : Int32) (m_partsThen_31 : (Nat → Int32)) (H : Heap) (locs : List Loc), va_P D vwCl [(ax, .inr (8, [.int m_letterMany, .ref a_text, .int m_readAt, .ref a_told, .ref a_readLaw, .ref a_readNow, .ref a_law, .ref a_now, .ref a_tried, .int m_undoMany, .int m_undoAt, .ref a_undos, .int m_seenMany, .ref a_seenHour, .ref a_seenAt, .ref a_parts, .ref a_partsThen, .int m_keptMany, .ref a_kept])), (a_law, .inl (cI, 22, .inl m_law)), (a_now, .inl (cI, 26, .inl m_now)), (a_parts, .inl (cI, 24, .inl m_parts_25)), (a_partsThen, .inl (cI, 24, .inl m_partsThen_31))] H → va_D A [(ax, .inr (8, [.int m_letterMany, .ref a_text, .int m_readAt, .ref a_told, .ref a_readLaw, .ref a_readNow, .ref a_law, .ref a_now, .ref a_tried, .int m_undoMany, .int m_undoAt, .ref a_undos, .int m_seenMany, .ref a_seenHour, .ref a_seenAt, .ref a_parts, .ref a_partsThen, .int m_keptMany, .ref a_kept])), (a_law, .inl (cI, 22, .inl m_law)), (a_now, .inl (cI, 26, .inl m_now)), (a_parts, .inl (cI, 24, .inl m_parts_25)), (a_partsThen, .inl (cI, 24, .inl m_partsThen_31))] → va_S A s.heap H locs → ∀ ls : Array Slot, lv_has ls 10 [(7, .int v24), (6, .int v23), (0, .ref ax), (1, .int u), (2, .int h), (3, .int n), (4, .int i), (5, .int j)] → k120 v30 m_partsThen_31 = some (rr, m_parts', m_partsThen') → W p l e rm_X8_flecks s m args below meth c H locs 0 0 Q (F0 m 173 ls [])) → ∀ (nf120 : Nat) (v30 : Int32) (m_partsThen_31 : (Nat → Int32)) (H : Heap) (locs : List Loc), va_P D vwCl [(ax, .inr (8, [.int m_letterMany, .ref a_text, .int m_readAt, .ref a_told, .ref a_readLaw, .ref a_readNow, .ref a_law, .ref a_now, .ref a_tried, .int m_undoMany, .int m_undoAt, .ref a_undos, .int m_seenMany, .ref a_seenHour, .ref a_seenAt, .ref a_parts, .ref a_partsThen, .int m_keptMany, .ref a_kept])), (a_law, .inl (cI, 22, .inl m_law)), (a_now, .inl (cI, 26, .inl m_now)), (a_parts, .inl (cI, 24, .inl m_parts_25)), (a_partsThen, .inl (cI, 24, .inl m_partsThen_31))] H → va_D A [(ax, .inr (8, [.int m_letterMany, .ref a_text, .int m_readAt, .ref a_told, .ref a_readLaw, .ref a_readNow, .ref a_law, .ref a_now, .ref a_tried, .int m_undoMany, .int m_undoAt, .ref a_undos, .int m_seenMany, .ref a_seenHour, .ref a_seenAt, .ref a_parts, .ref a_partsThen, .int m_keptMany, .ref a_kept])), (a_law, .inl (cI, 22, .inl m_law)), (a_now, .inl (cI, 26, .inl m_now)), (a_parts, .inl (cI, 24, .inl m_parts_25)), (a_partsThen, .inl (cI, 24, .inl m_partsThen_31))] → va_S A s.heap H locs → ∀ ls : Array Slot, lv_has ls 10 [(9, .int v30), (8, .int r28), (7, .int v24), (6, .int v23), (0, .ref ax), (1, .int u), (2, .int h), (3, .int n), (4, .int i), (5, .int j)] → f_X8_flecks_L120 r28 i m_parts_25 k120 nf120 v30 m_partsThen_31 = some (rr, m_parts', m_partsThen') → W p l e rm_X8_flecks s m args below meth c H locs 0 0 Q (F0 m 120 ls []) := by
                    intro k120 hk120 nf120
                    induction nf120 with
                    | zero =>
                      intro v30 m_partsThen_31 H locs hP hD hS ls hl hF
                      rw [f_X8_flecks_L120_0] at hF
                      cases hF
                    | succ nf120 ih120 =>
                      intro v30 m_partsThen_31 H locs hP hD hS ls hl hF
                      rw [f_X8_flecks_L120_s] at hF
                      refine lv_iload hx hb dX8_flecks_120 (lv_at hl 0 rfl) ?_
                      refine lv_bipush (v := (24 : Int32)) hx hb dX8_flecks_122 (by decide) ?_
                      refine lv_icmp_ge (tgt := 173) hx hb dX8_flecks_124 (by decide) (fun c32 => ?_) (fun c32 => ?_)
                      · have hF := op_pos c32 hF
                        exact hk120 v30 m_partsThen_31 _ _ hP hD hS _ (lv_sub hl [2, 3, 4, 5, 6, 7, 8, 9] rfl) hF
                      · have hF := op_neg c32 hF
                        refine lv_aload_n hx hb dX8_flecks_127 rfl (lv_at hl 4 rfl) ?_
                        refine va_get (D := D) (ci := 8) (v := .ref a_partsThen) (C := RX8) (T := TX8) (N := 19) hx hb hts iX8 hown hK hP 0 rfl rfl 16 (by decide) k_f43 (fun _ h9 => h9) rfl dX8_flecks_128 ?_
                        refine lv_iload hx hb dX8_flecks_131 (lv_at hl 0 rfl) ?_
                        refine lv_iload hx hb dX8_flecks_133 (lv_at hl 8 rfl) ?_
                        refine lv_aload_n hx hb dX8_flecks_135 rfl (lv_at hl 4 rfl) ?_
                        refine va_get (D := D) (ci := 8) (v := .ref a_parts) (C := RX8) (T := TX8) (N := 19) hx hb hts iX8 hown hK hP 0 rfl rfl 15 (by decide) k_f40 (fun _ h9 => h9) rfl dX8_flecks_136 ?_
                        refine lv_iload hx hb dX8_flecks_139 (lv_at hl 0 rfl) ?_
                        refine lv_bipush (v := (24 : Int32)) hx hb dX8_flecks_141 (by decide) ?_
                        refine lv_iadd hx hb dX8_flecks_143 ?_
                        refine lv_iload hx hb dX8_flecks_144 (lv_at hl 1 rfl) ?_
                        refine lv_isub hx hb dX8_flecks_146 ?_
                        refine lv_bipush (v := (24 : Int32)) hx hb dX8_flecks_147 (by decide) ?_
                        refine lv_irem hx hb dX8_flecks_149 (by decide) ?_
                        obtain ⟨o33, hF⟩ := op_ob hF
                        refine va_iald hx hb hK hP 3 0 rfl rfl (okb_in o33) dX8_flecks_150 ?_
                        refine lv_imul hx hb dX8_flecks_151 ?_
                        refine lv_bipush (v := (10 : Int32)) hx hb dX8_flecks_152 (by decide) ?_
                        refine lv_iload hx hb dX8_flecks_154 (lv_at hl 8 rfl) ?_
                        refine lv_isub hx hb dX8_flecks_156 ?_
                        refine lv_aload_n hx hb dX8_flecks_157 rfl (lv_at hl 4 rfl) ?_
                        refine va_get (D := D) (ci := 8) (v := .ref a_parts) (C := RX8) (T := TX8) (N := 19) hx hb hts iX8 hown hK hP 0 rfl rfl 15 (by decide) k_f40 (fun _ h9 => h9) rfl dX8_flecks_158 ?_
                        refine lv_iload hx hb dX8_flecks_161 (lv_at hl 0 rfl) ?_
                        obtain ⟨o34, hF⟩ := op_ob hF
                        refine va_iald hx hb hK hP 3 0 rfl rfl (okb_in o34) dX8_flecks_163 ?_
                        refine lv_imul hx hb dX8_flecks_164 ?_
                        refine lv_iadd hx hb dX8_flecks_165 ?_
                        refine va_iast hx hb hK hP hD hS 4 0 rfl rfl (okb_in o34) dX8_flecks_166 (fun H locs hP hD hS => ?_)
                        have hP : va_P D vwCl [(ax, .inr (8, [.int m_letterMany, .ref a_text, .int m_readAt, .ref a_told, .ref a_readLaw, .ref a_readNow, .ref a_law, .ref a_now, .ref a_tried, .int m_undoMany, .int m_undoAt, .ref a_undos, .int m_seenMany, .ref a_seenHour, .ref a_seenAt, .ref a_parts, .ref a_partsThen, .int m_keptMany, .ref a_kept])), (a_law, .inl (cI, 22, .inl m_law)), (a_now, .inl (cI, 26, .inl m_now)), (a_parts, .inl (cI, 24, .inl m_parts_25)), (a_partsThen, .inl (cI, 24, .inl (upd m_partsThen_31 v30.toNatClampNeg ((i * (m_parts_25 (jrem ((v30 + (24 : Int32)) - r28) (24 : Int32)).toNatClampNeg)) + (((10 : Int32) - i) * (m_parts_25 v30.toNatClampNeg))))))] H := hP
                        have hD : va_D A [(ax, .inr (8, [.int m_letterMany, .ref a_text, .int m_readAt, .ref a_told, .ref a_readLaw, .ref a_readNow, .ref a_law, .ref a_now, .ref a_tried, .int m_undoMany, .int m_undoAt, .ref a_undos, .int m_seenMany, .ref a_seenHour, .ref a_seenAt, .ref a_parts, .ref a_partsThen, .int m_keptMany, .ref a_kept])), (a_law, .inl (cI, 22, .inl m_law)), (a_now, .inl (cI, 26, .inl m_now)), (a_parts, .inl (cI, 24, .inl m_parts_25)), (a_partsThen, .inl (cI, 24, .inl (upd m_partsThen_31 v30.toNatClampNeg ((i * (m_parts_25 (jrem ((v30 + (24 : Int32)) - r28) (24 : Int32)).toNatClampNeg)) + (((10 : Int32) - i) * (m_parts_25 v30.toNatClampNeg))))))] := hD
                        refine lv_iinc (v := (v30 + (1 : Int32))) (lv' := [(9, .int (v30 + (1 : Int32))), (8, .int r28), (7, .int v24), (6, .int v23), (0, .ref ax), (1, .int u), (2, .int h), (3, .int n), (4, .int i), (5, .int j)]) hx hb dX8_flecks_167 hl (k := 0) rfl (by first | rfl | decide) (by decide) rfl (fun ls hl => ?_)
                        refine lv_goto (tgt := 120) hx hb dX8_flecks_170 (by decide) ?_
                        exact ih120 (v30 + (1 : Int32)) (upd m_partsThen_31 v30.toNatClampNeg ((i * (m_parts_25 (jrem ((v30 + (24 : Int32)) - r28) (24 : Int32)).toNatClampNeg)) + (((10 : Int32) - i) * (m_parts_25 v30.toNatClampNeg)))) _ _ hP hD hS _ (lv_sub hl [0, 1, 2, 3, 4, 5, 6, 7, 8, 9] rfl) hF
                  refine hL120 _ (fun v30 m_partsThen_31 H locs hP hD hS ls hl hF => ?_) 20000 (0 : Int32) m_partsThen_26 _ _ hP hD hS _ (lv_sub hl [0, 1, 2, 3, 4, 5, 6, 7, 8, 9] rfl) hF
                  refine lv_iconst (v := (0 : Int32)) hx hb dX8_flecks_173 (by decide) ?_
                  refine lv_istore (lv' := [(9, .int (0 : Int32)), (7, .int v24), (6, .int v23), (0, .ref ax), (1, .int u), (2, .int h), (3, .int n), (4, .int i), (5, .int j)]) hx hb dX8_flecks_174 hl (by decide) rfl (fun ls hl => ?_)
                  have hL176 : ∀ (k176 : Int32 → (Nat → Int32) → Option (Int32 × (Nat → Int32) × (Nat → Int32))), (∀ (v35 : Int32) (m_parts_36 : (Nat → Int32)) (H : Heap) (locs : List Loc), va_P D vwCl [(ax, .inr (8, [.int m_letterMany, .ref a_text, .int m_readAt, .ref a_told, .ref a_readLaw, .ref a_readNow, .ref a_law, .ref a_now, .ref a_tried, .int m_undoMany, .int m_undoAt, .ref a_undos, .int m_seenMany, .ref a_seenHour, .ref a_seenAt, .ref a_parts, .ref a_partsThen, .int m_keptMany, .ref a_kept])), (a_law, .inl (cI, 22, .inl m_law)), (a_now, .inl (cI, 26, .inl m_now)), (a_parts, .inl (cI, 24, .inl m_parts_36)), (a_partsThen, .inl (cI, 24, .inl m_partsThen_31))] H → va_D A [(ax, .inr (8, [.int m_letterMany, .ref a_text, .int m_readAt, .ref a_told, .ref a_readLaw, .ref a_readNow, .ref a_law, .ref a_now, .ref a_tried, .int m_undoMany, .int m_undoAt, .ref a_undos, .int m_seenMany, .ref a_seenHour, .ref a_seenAt, .ref a_parts, .ref a_partsThen, .int m_keptMany, .ref a_kept])), (a_law, .inl (cI, 22, .inl m_law)), (a_now, .inl (cI, 26, .inl m_now)), (a_parts, .inl (cI, 24, .inl m_parts_36)), (a_partsThen, .inl (cI, 24, .inl m_partsThen_31))] → va_S A s.heap H locs → ∀ ls : Array Slot, lv_has ls 10 [(7, .int v24), (6, .int v23), (0, .ref ax), (1, .int u), (2, .int h), (3, .int n), (4, .int i), (5, .int j)] → k176 v35 m_parts_36 = some (rr, m_parts', m_partsThen') → W p l e rm_X8_flecks s m args below meth c H locs 0 0 Q (F0 m 203 ls [])) → ∀ (nf176 : Nat) (v35 : Int32) (m_parts_36 : (Nat → Int32)) (H : Heap) (locs : List Loc), va_P D vwCl [(ax, .inr (8, [.int m_letterMany, .ref a_text, .int m_readAt, .ref a_told, .ref a_readLaw, .ref a_readNow, .ref a_law, .ref a_now, .ref a_tried, .int m_undoMany, .int m_undoAt, .ref a_undos, .int m_seenMany, .ref a_seenHour, .ref a_seenAt, .ref a_parts, .ref a_partsThen, .int m_keptMany, .ref a_kept])), (a_law, .inl (cI, 22, .inl m_law)), (a_now, .inl (cI, 26, .inl m_now)), (a_parts, .inl (cI, 24, .inl m_parts_36)), (a_partsThen, .inl (cI, 24, .inl m_partsThen_31))] H → va_D A [(ax, .inr (8, [.int m_letterMany, .ref a_text, .int m_readAt, .ref a_told, .ref a_readLaw, .ref a_readNow, .ref a_law, .ref a_now, .ref a_tried, .int m_undoMany, .int m_undoAt, .ref a_undos, .int m_seenMany, .ref a_seenHour, .ref a_seenAt, .ref a_parts, .ref a_partsThen, .int m_keptMany, .ref a_kept])), (a_law, .inl (cI, 22, .inl m_law)), (a_now, .inl (cI, 26, .inl m_now)), (a_parts, .inl (cI, 24, .inl m_parts_36)), (a_partsThen, .inl (cI, 24, .inl m_partsThen_31))] → va_S A s.heap H locs → ∀ ls : Array Slot, lv_has ls 10 [(9, .int v35), (7, .int v24), (6, .int v23), (0, .ref ax), (1, .int u), (2, .int h), (3, .int n), (4, .int i), (5, .int j)] → f_X8_flecks_L176 m_partsThen_31 k176 nf176 v35 m_parts_36 = some (rr, m_parts', m_partsThen') → W p l e rm_X8_flecks s m args below meth c H locs 0 0 Q (F0 m 176 ls []) := by
                    intro k176 hk176 nf176
                    induction nf176 with
                    | zero =>
                      intro v35 m_parts_36 H locs hP hD hS ls hl hF
                      rw [f_X8_flecks_L176_0] at hF
                      cases hF
                    | succ nf176 ih176 =>
                      intro v35 m_parts_36 H locs hP hD hS ls hl hF
                      rw [f_X8_flecks_L176_s] at hF
                      refine lv_iload hx hb dX8_flecks_176 (lv_at hl 0 rfl) ?_
                      refine lv_bipush (v := (24 : Int32)) hx hb dX8_flecks_178 (by decide) ?_
                      refine lv_icmp_ge (tgt := 203) hx hb dX8_flecks_180 (by decide) (fun c37 => ?_) (fun c37 => ?_)
                      · have hF := op_pos c37 hF
                        exact hk176 v35 m_parts_36 _ _ hP hD hS _ (lv_sub hl [1, 2, 3, 4, 5, 6, 7, 8] rfl) hF
                      · have hF := op_neg c37 hF
                        refine lv_aload_n hx hb dX8_flecks_183 rfl (lv_at hl 3 rfl) ?_
                        refine va_get (D := D) (ci := 8) (v := .ref a_parts) (C := RX8) (T := TX8) (N := 19) hx hb hts iX8 hown hK hP 0 rfl rfl 15 (by decide) k_f40 (fun _ h9 => h9) rfl dX8_flecks_184 ?_
                        refine lv_iload hx hb dX8_flecks_187 (lv_at hl 0 rfl) ?_
                        refine lv_aload_n hx hb dX8_flecks_189 rfl (lv_at hl 3 rfl) ?_
                        refine va_get (D := D) (ci := 8) (v := .ref a_partsThen) (C := RX8) (T := TX8) (N := 19) hx hb hts iX8 hown hK hP 0 rfl rfl 16 (by decide) k_f43 (fun _ h9 => h9) rfl dX8_flecks_190 ?_
                        refine lv_iload hx hb dX8_flecks_193 (lv_at hl 0 rfl) ?_
                        obtain ⟨o38, hF⟩ := op_ob hF
                        refine va_iald hx hb hK hP 4 0 rfl rfl (okb_in o38) dX8_flecks_195 ?_
                        refine va_iast hx hb hK hP hD hS 3 0 rfl rfl (okb_in o38) dX8_flecks_196 (fun H locs hP hD hS => ?_)
                        have hP : va_P D vwCl [(ax, .inr (8, [.int m_letterMany, .ref a_text, .int m_readAt, .ref a_told, .ref a_readLaw, .ref a_readNow, .ref a_law, .ref a_now, .ref a_tried, .int m_undoMany, .int m_undoAt, .ref a_undos, .int m_seenMany, .ref a_seenHour, .ref a_seenAt, .ref a_parts, .ref a_partsThen, .int m_keptMany, .ref a_kept])), (a_law, .inl (cI, 22, .inl m_law)), (a_now, .inl (cI, 26, .inl m_now)), (a_parts, .inl (cI, 24, .inl (upd m_parts_36 v35.toNatClampNeg (m_partsThen_31 v35.toNatClampNeg)))), (a_partsThen, .inl (cI, 24, .inl m_partsThen_31))] H := hP
                        have hD : va_D A [(ax, .inr (8, [.int m_letterMany, .ref a_text, .int m_readAt, .ref a_told, .ref a_readLaw, .ref a_readNow, .ref a_law, .ref a_now, .ref a_tried, .int m_undoMany, .int m_undoAt, .ref a_undos, .int m_seenMany, .ref a_seenHour, .ref a_seenAt, .ref a_parts, .ref a_partsThen, .int m_keptMany, .ref a_kept])), (a_law, .inl (cI, 22, .inl m_law)), (a_now, .inl (cI, 26, .inl m_now)), (a_parts, .inl (cI, 24, .inl (upd m_parts_36 v35.toNatClampNeg (m_partsThen_31 v35.toNatClampNeg)))), (a_partsThen, .inl (cI, 24, .inl m_partsThen_31))] := hD
                        refine lv_iinc (v := (v35 + (1 : Int32))) (lv' := [(9, .int (v35 + (1 : Int32))), (7, .int v24), (6, .int v23), (0, .ref ax), (1, .int u), (2, .int h), (3, .int n), (4, .int i), (5, .int j)]) hx hb dX8_flecks_197 hl (k := 0) rfl (by first | rfl | decide) (by decide) rfl (fun ls hl => ?_)
                        refine lv_goto (tgt := 176) hx hb dX8_flecks_200 (by decide) ?_
                        exact ih176 (v35 + (1 : Int32)) (upd m_parts_36 v35.toNatClampNeg (m_partsThen_31 v35.toNatClampNeg)) _ _ hP hD hS _ (lv_sub hl [0, 1, 2, 3, 4, 5, 6, 7, 8] rfl) hF
                  refine hL176 _ (fun v35 m_parts_36 H locs hP hD hS ls hl hF => ?_) 20000 (0 : Int32) m_parts_25 _ _ hP hD hS _ (lv_sub hl [0, 1, 2, 3, 4, 5, 6, 7, 8] rfl) hF
                  refine lv_iload hx hb dX8_flecks_203 (lv_at hl 1 rfl) ?_
                  refine lv_bipush (v := (10 : Int32)) hx hb dX8_flecks_205 (by decide) ?_
                  refine lv_imul hx hb dX8_flecks_207 ?_
                  refine lv_istore (lv' := [(6, .int (v23 * (10 : Int32))), (7, .int v24), (0, .ref ax), (1, .int u), (2, .int h), (3, .int n), (4, .int i), (5, .int j)]) hx hb dX8_flecks_208 hl (by decide) rfl (fun ls hl => ?_)
                  refine lv_iinc (v := (v24 + (1 : Int32))) (lv' := [(7, .int (v24 + (1 : Int32))), (6, .int (v23 * (10 : Int32))), (0, .ref ax), (1, .int u), (2, .int h), (3, .int n), (4, .int i), (5, .int j)]) hx hb dX8_flecks_210 hl (k := 1) rfl (by first | rfl | decide) (by decide) rfl (fun ls hl => ?_)
                  refine lv_goto (tgt := 95) hx hb dX8_flecks_213 (by decide) ?_
                  exact ih95 (v23 * (10 : Int32)) (v24 + (1 : Int32)) m_parts_36 m_partsThen_31 _ _ hP hD hS _ (lv_sub hl [0, 1, 2, 3, 4, 5, 6, 7] rfl) hF
            refine hL95 _ (fun v23 v24 m_parts_25 m_partsThen_26 H locs hP hD hS ls hl hF => ?_) 20000 (1 : Int32) (0 : Int32) m_parts_17 m_partsThen _ _ hP hD hS _ (lv_sub hl [0, 1, 2, 3, 4, 5, 6, 7] rfl) hF
            refine lv_aload_n hx hb dX8_flecks_216 rfl (lv_at hl 1 rfl) ?_
            refine va_get (D := D) (ci := 8) (v := .ref a_parts) (C := RX8) (T := TX8) (N := 19) hx hb hts iX8 hown hK hP 0 rfl rfl 15 (by decide) k_f40 (fun _ h9 => h9) rfl dX8_flecks_217 ?_
            refine lv_iload_n hx hb dX8_flecks_220 rfl (lv_at hl 2 rfl) ?_
            obtain ⟨o39, hF⟩ := op_ob hF
            refine va_iald hx hb hK hP 3 0 rfl rfl (okb_in o39) dX8_flecks_221 ?_
            refine lv_iload hx hb dX8_flecks_222 (lv_at hl 0 rfl) ?_
            obtain ⟨r40, hb41, hF⟩ := op_bind hF
            refine xSr (As := [.int (m_parts_25 h.toNatClampNeg), .int v23]) (rest := []) hC hP hD hS [] (c_X8_common l D cI cC cM (m_parts_25 h.toNatClampNeg) v23 r40 hb41) (va_cwS 2 hts gX8_flecks_X8_common rfl rfl rfl pd_X8_common ⟨Nat.le_of_ble_eq_true rfl, Nat.le_of_ble_eq_true rfl⟩) rfl rfl rfl hl.1 rfl (Nat.le_of_ble_eq_true rfl) dX8_flecks_224 ⟨Nat.zero_le _, Nat.zero_le _⟩ (fun H locs hP hS => ?_)
            refine lv_istore (lv' := [(7, .int r40), (6, .int v23), (0, .ref ax), (2, .int h), (5, .int j)]) hx hb dX8_flecks_227 hl (by decide) rfl (fun ls hl => ?_)
            refine lv_iload hx hb dX8_flecks_229 (lv_at hl 4 rfl) ?_
            refine lv_if_ne (tgt := 246) hx hb dX8_flecks_231 (by decide) (fun c42 => ?_) (fun c42 => ?_)
            · have hF := op_neg c42 hF
              refine lv_iload hx hb dX8_flecks_246 (lv_at hl 1 rfl) ?_
              refine lv_iload hx hb dX8_flecks_248 (lv_at hl 0 rfl) ?_
              obtain ⟨n43, hF⟩ := op_nz hF
              refine lv_idiv hx hb dX8_flecks_250 n43 ?_
              cases hF
              rw [hQ]
              exact xri hC hP hS dX8_flecks_251
            · have hF := op_pos c42 hF
              refine lv_aload_n hx hb dX8_flecks_234 rfl (lv_at hl 2 rfl) ?_
              refine va_get (D := D) (ci := 8) (v := .ref a_parts) (C := RX8) (T := TX8) (N := 19) hx hb hts iX8 hown hK hP 0 rfl rfl 15 (by decide) k_f40 (fun _ h9 => h9) rfl dX8_flecks_235 ?_
              refine lv_iload_n hx hb dX8_flecks_238 rfl (lv_at hl 3 rfl) ?_
              refine va_iald hx hb hK hP 3 0 rfl rfl (okb_in o39) dX8_flecks_239 ?_
              refine lv_iload hx hb dX8_flecks_240 (lv_at hl 0 rfl) ?_
              obtain ⟨n44, hF⟩ := op_nz hF
              refine lv_idiv hx hb dX8_flecks_242 n44 ?_
              refine lv_goto (tgt := 251) hx hb dX8_flecks_243 (by decide) ?_
              cases hF
              rw [hQ]
              exact xri hC hP hS dX8_flecks_251
          · have hF := op_pos c15 hF
            refine lv_iconst (v := (-1 : Int32)) hx hb dX8_flecks_46 (by decide) ?_
            cases hF
            rw [hQ]
            exact xri hC hP hS dX8_flecks_47

def f_X8_draws (m_law : (Nat → Int32)) (o : (Nat → Int32)) (d0 : Int32) : Option (Nat → Int32) := (if (m_law (2 : Int32).toNatClampNeg) = 0 then none else (if (jrem d0 (8 : Int32)) = (0 : Int32) then (if (m_law (1 : Int32).toNatClampNeg) = 0 then none else (Option.bind (f_X8_takes m_law o (jrem (d0 / (8 : Int32)) (m_law (2 : Int32).toNatClampNeg)) (jrem (d0 / (64 : Int32)) (m_law (1 : Int32).toNatClampNeg))) fun (r4, o_5) => (some o_5))) else (if (jrem d0 (8 : Int32)) = (1 : Int32) then (if (m_law (1 : Int32).toNatClampNeg) = 0 then none else (Option.bind (f_X8_takes m_law o (jrem (d0 / (8 : Int32)) (m_law (2 : Int32).toNatClampNeg)) (jrem (d0 / (64 : Int32)) (m_law (1 : Int32).toNatClampNeg))) fun (r9, o_10) => (some o_10))) else (if (jrem d0 (8 : Int32)) = (2 : Int32) then (Option.bind (f_X8_shares m_law o (jrem (d0 / (8 : Int32)) (m_law (2 : Int32).toNatClampNeg)) (jrem (d0 / (64 : Int32)) (m_law (2 : Int32).toNatClampNeg))) fun (r13, o_14) => (some o_14)) else (if (jrem d0 (8 : Int32)) = (3 : Int32) then (Option.bind (f_X8_gives m_law o (jrem (d0 / (8 : Int32)) (m_law (2 : Int32).toNatClampNeg))) fun (r17, o_18) => (some o_18)) else (if (jrem d0 (8 : Int32)) = (4 : Int32) then (Option.bind (f_X8_walks m_law o (jrem (d0 / (8 : Int32)) (m_law (2 : Int32).toNatClampNeg)) (jrem (d0 / (64 : Int32)) (2 : Int32))) fun (r21, o_22) => (some o_22)) else (if (jrem d0 (8 : Int32)) = (5 : Int32) then (Option.bind (f_X8_walks m_law o (jrem (d0 / (8 : Int32)) (m_law (2 : Int32).toNatClampNeg)) (jrem (d0 / (64 : Int32)) (2 : Int32))) fun (r25, o_26) => (some o_26)) else (if (jrem d0 (8 : Int32)) = (6 : Int32) then (Option.bind (f_X8_walks m_law o (jrem (d0 / (8 : Int32)) (m_law (2 : Int32).toNatClampNeg)) (jrem (d0 / (64 : Int32)) (2 : Int32))) fun (r29, o_30) => (some o_30)) else (if (jrem d0 (8 : Int32)) = (7 : Int32) then (if (m_law (1 : Int32).toNatClampNeg) = 0 then none else (Option.bind (f_X8_mends m_law o (jrem (d0 / (64 : Int32)) (m_law (1 : Int32).toNatClampNeg))) fun (r34, o_35) => (some o_35))) else (Option.bind (f_X8_walks m_law o (jrem (d0 / (8 : Int32)) (m_law (2 : Int32).toNatClampNeg)) (jrem (d0 / (64 : Int32)) (2 : Int32))) fun (r37, o_38) => (some o_38)))))))))))

def rm_X8_draws : Room := { frames := 2, cells := 0, slots := 0, locals := 48 }

theorem pd_X8_draws : yX8_draws.cls ≠ "java/lang/invoke/MethodHandle" ∧ yX8_draws.cls ≠ "java/lang/invoke/VarHandle" ∧ (parseMethodDescriptor yX8_draws.desc).map (fun d => d.parameters.length) = some 2 := by decide +kernel

set_option maxHeartbeats 4000000 in
set_option maxRecDepth 100000 in
theorem c_X8_draws (l : Launch) (D : va_G) (cI cC cM : ClassId) (ax a_law a_of a_text a_told a_readLaw a_readNow a_now a_tried a_undos a_seenHour a_seenAt a_parts a_partsThen a_kept : Nat) (m_letterMany : Int32) (m_readAt : Int32) (m_undoMany : Int32) (m_undoAt : Int32) (m_seenMany : Int32) (m_keptMany : Int32) (m_law : (Nat → Int32)) (o : (Nat → Int32)) (d0 : Int32) (o' : (Nat → Int32)) (hF : f_X8_draws m_law o d0 = some o') : CV l D cI cC cM yX8_draws wsX8_draws rm_X8_draws [.ref ax, .ref a_of, .int d0] [(ax, .inr (8, [.int m_letterMany, .ref a_text, .int m_readAt, .ref a_told, .ref a_readLaw, .ref a_readNow, .ref a_law, .ref a_now, .ref a_tried, .int m_undoMany, .int m_undoAt, .ref a_undos, .int m_seenMany, .ref a_seenHour, .ref a_seenAt, .ref a_parts, .ref a_partsThen, .int m_keptMany, .ref a_kept])), (a_law, .inl (cI, 22, .inl m_law)), (a_of, .inl (cI, 26, .inl o))] [(ax, .inr (8, [.int m_letterMany, .ref a_text, .int m_readAt, .ref a_told, .ref a_readLaw, .ref a_readNow, .ref a_law, .ref a_now, .ref a_tried, .int m_undoMany, .int m_undoAt, .ref a_undos, .int m_seenMany, .ref a_seenHour, .ref a_seenAt, .ref a_parts, .ref a_partsThen, .int m_keptMany, .ref a_kept])), (a_law, .inl (cI, 22, .inl m_law)), (a_of, .inl (cI, 26, .inl o'))] := by
  refine CV.of (cc := cX8_draws) (nL := 5) (ret := none) (by decide) rfl (Nat.le_of_ble_eq_true rfl) ?_
  intro p e s m args below meth c A hC hP hD hS ls hl
  obtain ⟨hx, hb, hml, hown, hts, hr, hlk, hG, hA⟩ := id hC
  have hown : s.vm.findClass RX8 = some m.cls := hown
  have hK := hG.1
  have hl : lv_has ls 5 [(0, .ref ax), (1, .ref a_of), (2, .int d0)] := hl
  have k_f22 := hts (.fieldLink RX8 22 "ParasolHoursModel" "law" "[I") (List.mem_of_getElem? (i := 1) rfl)
  have iX8 : ∀ w ∈ wsX80, w ∈ wsX8_draws := by decide +kernel
  obtain ⟨Q, hQ⟩ : ∃ Q, Q = MQ below (QV D [(ax, .inr (8, [.int m_letterMany, .ref a_text, .int m_readAt, .ref a_told, .ref a_readLaw, .ref a_readNow, .ref a_law, .ref a_now, .ref a_tried, .int m_undoMany, .int m_undoAt, .ref a_undos, .int m_seenMany, .ref a_seenHour, .ref a_seenAt, .ref a_parts, .ref a_partsThen, .int m_keptMany, .ref a_kept])), (a_law, .inl (cI, 22, .inl m_law)), (a_of, .inl (cI, 26, .inl o'))] A) args s 0 0 A := ⟨_, rfl⟩
  rw [← hQ]
  unfold f_X8_draws at hF
  refine lv_iload_n hx hb dX8_draws_0 rfl (lv_at hl 2 rfl) ?_
  refine lv_bipush (v := (8 : Int32)) hx hb dX8_draws_1 (by decide) ?_
  refine lv_idiv hx hb dX8_draws_3 (by decide) ?_
  refine lv_aload_n hx hb dX8_draws_4 rfl (lv_at hl 0 rfl) ?_
  refine va_get (D := D) (ci := 8) (v := .ref a_law) (C := RX8) (T := TX8) (N := 19) hx hb hts iX8 hown hK hP 0 rfl rfl 6 (by decide) k_f22 (fun _ h9 => h9) rfl dX8_draws_5 ?_
  refine lv_iconst (v := (2 : Int32)) hx hb dX8_draws_8 (by decide) ?_
  refine va_iald hx hb hK hP 1 0 rfl rfl (okb_in (by decide)) dX8_draws_9 ?_
  obtain ⟨n1, hF⟩ := op_nz hF
  refine lv_irem hx hb dX8_draws_10 n1 ?_
  refine lv_istore_n (lv' := [(3, .int (jrem (d0 / (8 : Int32)) (m_law (2 : Int32).toNatClampNeg))), (0, .ref ax), (1, .ref a_of), (2, .int d0)]) hx hb dX8_draws_11 rfl hl (by decide) rfl (fun ls hl => ?_)
  refine lv_iload_n hx hb dX8_draws_12 rfl (lv_at hl 3 rfl) ?_
  refine lv_bipush (v := (64 : Int32)) hx hb dX8_draws_13 (by decide) ?_
  refine lv_idiv hx hb dX8_draws_15 (by decide) ?_
  refine lv_istore (lv' := [(4, .int (d0 / (64 : Int32))), (3, .int (jrem (d0 / (8 : Int32)) (m_law (2 : Int32).toNatClampNeg))), (0, .ref ax), (1, .ref a_of), (2, .int d0)]) hx hb dX8_draws_16 hl (by decide) rfl (fun ls hl => ?_)
  refine lv_iload_n hx hb dX8_draws_18 rfl (lv_at hl 4 rfl) ?_
  refine lv_bipush (v := (8 : Int32)) hx hb dX8_draws_19 (by decide) ?_
  refine lv_irem hx hb dX8_draws_21 (by decide) ?_
  by_cases c2 : (jrem d0 (8 : Int32)) = (0 : Int32)
  · have hF := op_pos c2 hF
    refine lv_tableIn (x := (jrem d0 (8 : Int32))) (off := 46) (tgt := 68) hx hb dX8_draws_22 (by rw [c2]; decide) (by rw [c2]; decide) (by rw [c2]; rfl) (by decide) ?_
    refine lv_aload_n hx hb dX8_draws_68 rfl (lv_at hl 2 rfl) ?_
    refine lv_aload_n hx hb dX8_draws_69 rfl (lv_at hl 3 rfl) ?_
    refine lv_iload_n hx hb dX8_draws_70 rfl (lv_at hl 1 rfl) ?_
    refine lv_iload hx hb dX8_draws_71 (lv_at hl 0 rfl) ?_
    refine lv_aload_n hx hb dX8_draws_73 rfl (lv_at hl 2 rfl) ?_
    refine va_get (D := D) (ci := 8) (v := .ref a_law) (C := RX8) (T := TX8) (N := 19) hx hb hts iX8 hown hK hP 0 rfl rfl 6 (by decide) k_f22 (fun _ h9 => h9) rfl dX8_draws_74 ?_
    refine lv_iconst (v := (1 : Int32)) hx hb dX8_draws_77 (by decide) ?_
    refine va_iald hx hb hK hP 1 0 rfl rfl (okb_in (by decide)) dX8_draws_78 ?_
    obtain ⟨n3, hF⟩ := op_nz hF
    refine lv_irem hx hb dX8_draws_79 n3 ?_
    obtain ⟨⟨r4, o_5⟩, hb6, hF⟩ := op_bind hF
    refine xVi (As := [.ref a_of, .int (jrem (d0 / (8 : Int32)) (m_law (2 : Int32).toNatClampNeg)), .int (jrem (d0 / (64 : Int32)) (m_law (1 : Int32).toNatClampNeg))]) (rest := []) hC hP hD hS [0, 1, 2] (c_X8_takes l D cI cC cM ax a_law a_of a_text a_told a_readLaw a_readNow a_now a_tried a_undos a_seenHour a_seenAt a_parts a_partsThen a_kept m_letterMany m_readAt m_undoMany m_undoAt m_seenMany m_keptMany m_law o (jrem (d0 / (8 : Int32)) (m_law (2 : Int32).toNatClampNeg)) (jrem (d0 / (64 : Int32)) (m_law (1 : Int32).toNatClampNeg)) r4 o_5 hb6) (cwV 3 hts gX8_draws_X8_takes rfl rfl rfl ⟨rfl, pd_X8_takes⟩ ⟨Nat.le_of_ble_eq_true rfl, Nat.le_of_ble_eq_true rfl⟩) rfl rfl rfl 0 8 rfl rfl rfl rfl hl.1 rfl (Nat.le_of_ble_eq_true rfl) dX8_draws_80 ⟨Nat.zero_le _, Nat.zero_le _⟩ (fun H locs hP hD hS => ?_)
    have hP : va_P D vwCl [(ax, .inr (8, [.int m_letterMany, .ref a_text, .int m_readAt, .ref a_told, .ref a_readLaw, .ref a_readNow, .ref a_law, .ref a_now, .ref a_tried, .int m_undoMany, .int m_undoAt, .ref a_undos, .int m_seenMany, .ref a_seenHour, .ref a_seenAt, .ref a_parts, .ref a_partsThen, .int m_keptMany, .ref a_kept])), (a_law, .inl (cI, 22, .inl m_law)), (a_of, .inl (cI, 26, .inl o_5))] H := hP
    have hD : va_D A [(ax, .inr (8, [.int m_letterMany, .ref a_text, .int m_readAt, .ref a_told, .ref a_readLaw, .ref a_readNow, .ref a_law, .ref a_now, .ref a_tried, .int m_undoMany, .int m_undoAt, .ref a_undos, .int m_seenMany, .ref a_seenHour, .ref a_seenAt, .ref a_parts, .ref a_partsThen, .int m_keptMany, .ref a_kept])), (a_law, .inl (cI, 22, .inl m_law)), (a_of, .inl (cI, 26, .inl o_5))] := hD
    refine lv_pop hx hb dX8_draws_83 rfl ?_
    refine lv_goto (tgt := 145) hx hb dX8_draws_84 (by decide) ?_
    cases hF
    rw [hQ]
    exact xrv hC hP hS dX8_draws_145
  · have hF := op_neg c2 hF
    by_cases c7 : (jrem d0 (8 : Int32)) = (1 : Int32)
    · have hF := op_pos c7 hF
      refine lv_tableIn (x := (jrem d0 (8 : Int32))) (off := 46) (tgt := 68) hx hb dX8_draws_22 (by rw [c7]; decide) (by rw [c7]; decide) (by rw [c7]; rfl) (by decide) ?_
      refine lv_aload_n hx hb dX8_draws_68 rfl (lv_at hl 2 rfl) ?_
      refine lv_aload_n hx hb dX8_draws_69 rfl (lv_at hl 3 rfl) ?_
      refine lv_iload_n hx hb dX8_draws_70 rfl (lv_at hl 1 rfl) ?_
      refine lv_iload hx hb dX8_draws_71 (lv_at hl 0 rfl) ?_
      refine lv_aload_n hx hb dX8_draws_73 rfl (lv_at hl 2 rfl) ?_
      refine va_get (D := D) (ci := 8) (v := .ref a_law) (C := RX8) (T := TX8) (N := 19) hx hb hts iX8 hown hK hP 0 rfl rfl 6 (by decide) k_f22 (fun _ h9 => h9) rfl dX8_draws_74 ?_
      refine lv_iconst (v := (1 : Int32)) hx hb dX8_draws_77 (by decide) ?_
      refine va_iald hx hb hK hP 1 0 rfl rfl (okb_in (by decide)) dX8_draws_78 ?_
      obtain ⟨n8, hF⟩ := op_nz hF
      refine lv_irem hx hb dX8_draws_79 n8 ?_
      obtain ⟨⟨r9, o_10⟩, hb11, hF⟩ := op_bind hF
      refine xVi (As := [.ref a_of, .int (jrem (d0 / (8 : Int32)) (m_law (2 : Int32).toNatClampNeg)), .int (jrem (d0 / (64 : Int32)) (m_law (1 : Int32).toNatClampNeg))]) (rest := []) hC hP hD hS [0, 1, 2] (c_X8_takes l D cI cC cM ax a_law a_of a_text a_told a_readLaw a_readNow a_now a_tried a_undos a_seenHour a_seenAt a_parts a_partsThen a_kept m_letterMany m_readAt m_undoMany m_undoAt m_seenMany m_keptMany m_law o (jrem (d0 / (8 : Int32)) (m_law (2 : Int32).toNatClampNeg)) (jrem (d0 / (64 : Int32)) (m_law (1 : Int32).toNatClampNeg)) r9 o_10 hb11) (cwV 3 hts gX8_draws_X8_takes rfl rfl rfl ⟨rfl, pd_X8_takes⟩ ⟨Nat.le_of_ble_eq_true rfl, Nat.le_of_ble_eq_true rfl⟩) rfl rfl rfl 0 8 rfl rfl rfl rfl hl.1 rfl (Nat.le_of_ble_eq_true rfl) dX8_draws_80 ⟨Nat.zero_le _, Nat.zero_le _⟩ (fun H locs hP hD hS => ?_)
      have hP : va_P D vwCl [(ax, .inr (8, [.int m_letterMany, .ref a_text, .int m_readAt, .ref a_told, .ref a_readLaw, .ref a_readNow, .ref a_law, .ref a_now, .ref a_tried, .int m_undoMany, .int m_undoAt, .ref a_undos, .int m_seenMany, .ref a_seenHour, .ref a_seenAt, .ref a_parts, .ref a_partsThen, .int m_keptMany, .ref a_kept])), (a_law, .inl (cI, 22, .inl m_law)), (a_of, .inl (cI, 26, .inl o_10))] H := hP
      have hD : va_D A [(ax, .inr (8, [.int m_letterMany, .ref a_text, .int m_readAt, .ref a_told, .ref a_readLaw, .ref a_readNow, .ref a_law, .ref a_now, .ref a_tried, .int m_undoMany, .int m_undoAt, .ref a_undos, .int m_seenMany, .ref a_seenHour, .ref a_seenAt, .ref a_parts, .ref a_partsThen, .int m_keptMany, .ref a_kept])), (a_law, .inl (cI, 22, .inl m_law)), (a_of, .inl (cI, 26, .inl o_10))] := hD
      refine lv_pop hx hb dX8_draws_83 rfl ?_
      refine lv_goto (tgt := 145) hx hb dX8_draws_84 (by decide) ?_
      cases hF
      rw [hQ]
      exact xrv hC hP hS dX8_draws_145
    · have hF := op_neg c7 hF
      by_cases c12 : (jrem d0 (8 : Int32)) = (2 : Int32)
      · have hF := op_pos c12 hF
        refine lv_tableIn (x := (jrem d0 (8 : Int32))) (off := 65) (tgt := 87) hx hb dX8_draws_22 (by rw [c12]; decide) (by rw [c12]; decide) (by rw [c12]; rfl) (by decide) ?_
        refine lv_aload_n hx hb dX8_draws_87 rfl (lv_at hl 2 rfl) ?_
        refine lv_aload_n hx hb dX8_draws_88 rfl (lv_at hl 3 rfl) ?_
        refine lv_iload_n hx hb dX8_draws_89 rfl (lv_at hl 1 rfl) ?_
        refine lv_iload hx hb dX8_draws_90 (lv_at hl 0 rfl) ?_
        refine lv_aload_n hx hb dX8_draws_92 rfl (lv_at hl 2 rfl) ?_
        refine va_get (D := D) (ci := 8) (v := .ref a_law) (C := RX8) (T := TX8) (N := 19) hx hb hts iX8 hown hK hP 0 rfl rfl 6 (by decide) k_f22 (fun _ h9 => h9) rfl dX8_draws_93 ?_
        refine lv_iconst (v := (2 : Int32)) hx hb dX8_draws_96 (by decide) ?_
        refine va_iald hx hb hK hP 1 0 rfl rfl (okb_in (by decide)) dX8_draws_97 ?_
        refine lv_irem hx hb dX8_draws_98 n1 ?_
        obtain ⟨⟨r13, o_14⟩, hb15, hF⟩ := op_bind hF
        refine xVi (As := [.ref a_of, .int (jrem (d0 / (8 : Int32)) (m_law (2 : Int32).toNatClampNeg)), .int (jrem (d0 / (64 : Int32)) (m_law (2 : Int32).toNatClampNeg))]) (rest := []) hC hP hD hS [0, 1, 2] (c_X8_shares l D cI cC cM ax a_law a_of a_text a_told a_readLaw a_readNow a_now a_tried a_undos a_seenHour a_seenAt a_parts a_partsThen a_kept m_letterMany m_readAt m_undoMany m_undoAt m_seenMany m_keptMany m_law o (jrem (d0 / (8 : Int32)) (m_law (2 : Int32).toNatClampNeg)) (jrem (d0 / (64 : Int32)) (m_law (2 : Int32).toNatClampNeg)) r13 o_14 hb15) (cwV 3 hts gX8_draws_X8_shares rfl rfl rfl ⟨rfl, pd_X8_shares⟩ ⟨Nat.le_of_ble_eq_true rfl, Nat.le_of_ble_eq_true rfl⟩) rfl rfl rfl 0 8 rfl rfl rfl rfl hl.1 rfl (Nat.le_of_ble_eq_true rfl) dX8_draws_99 ⟨Nat.zero_le _, Nat.zero_le _⟩ (fun H locs hP hD hS => ?_)
        have hP : va_P D vwCl [(ax, .inr (8, [.int m_letterMany, .ref a_text, .int m_readAt, .ref a_told, .ref a_readLaw, .ref a_readNow, .ref a_law, .ref a_now, .ref a_tried, .int m_undoMany, .int m_undoAt, .ref a_undos, .int m_seenMany, .ref a_seenHour, .ref a_seenAt, .ref a_parts, .ref a_partsThen, .int m_keptMany, .ref a_kept])), (a_law, .inl (cI, 22, .inl m_law)), (a_of, .inl (cI, 26, .inl o_14))] H := hP
        have hD : va_D A [(ax, .inr (8, [.int m_letterMany, .ref a_text, .int m_readAt, .ref a_told, .ref a_readLaw, .ref a_readNow, .ref a_law, .ref a_now, .ref a_tried, .int m_undoMany, .int m_undoAt, .ref a_undos, .int m_seenMany, .ref a_seenHour, .ref a_seenAt, .ref a_parts, .ref a_partsThen, .int m_keptMany, .ref a_kept])), (a_law, .inl (cI, 22, .inl m_law)), (a_of, .inl (cI, 26, .inl o_14))] := hD
        refine lv_pop hx hb dX8_draws_102 rfl ?_
        refine lv_goto (tgt := 145) hx hb dX8_draws_103 (by decide) ?_
        cases hF
        rw [hQ]
        exact xrv hC hP hS dX8_draws_145
      · have hF := op_neg c12 hF
        by_cases c16 : (jrem d0 (8 : Int32)) = (3 : Int32)
        · have hF := op_pos c16 hF
          refine lv_tableIn (x := (jrem d0 (8 : Int32))) (off := 84) (tgt := 106) hx hb dX8_draws_22 (by rw [c16]; decide) (by rw [c16]; decide) (by rw [c16]; rfl) (by decide) ?_
          refine lv_aload_n hx hb dX8_draws_106 rfl (lv_at hl 2 rfl) ?_
          refine lv_aload_n hx hb dX8_draws_107 rfl (lv_at hl 3 rfl) ?_
          refine lv_iload_n hx hb dX8_draws_108 rfl (lv_at hl 1 rfl) ?_
          obtain ⟨⟨r17, o_18⟩, hb19, hF⟩ := op_bind hF
          refine xVi (As := [.ref a_of, .int (jrem (d0 / (8 : Int32)) (m_law (2 : Int32).toNatClampNeg))]) (rest := []) hC hP hD hS [0, 1, 2] (c_X8_gives l D cI cC cM ax a_law a_of a_text a_told a_readLaw a_readNow a_now a_tried a_undos a_seenHour a_seenAt a_parts a_partsThen a_kept m_letterMany m_readAt m_undoMany m_undoAt m_seenMany m_keptMany m_law o (jrem (d0 / (8 : Int32)) (m_law (2 : Int32).toNatClampNeg)) r17 o_18 hb19) (cwV 2 hts gX8_draws_X8_gives rfl rfl rfl ⟨rfl, pd_X8_gives⟩ ⟨Nat.le_of_ble_eq_true rfl, Nat.le_of_ble_eq_true rfl⟩) rfl rfl rfl 0 8 rfl rfl rfl rfl hl.1 rfl (Nat.le_of_ble_eq_true rfl) dX8_draws_109 ⟨Nat.zero_le _, Nat.zero_le _⟩ (fun H locs hP hD hS => ?_)
          have hP : va_P D vwCl [(ax, .inr (8, [.int m_letterMany, .ref a_text, .int m_readAt, .ref a_told, .ref a_readLaw, .ref a_readNow, .ref a_law, .ref a_now, .ref a_tried, .int m_undoMany, .int m_undoAt, .ref a_undos, .int m_seenMany, .ref a_seenHour, .ref a_seenAt, .ref a_parts, .ref a_partsThen, .int m_keptMany, .ref a_kept])), (a_law, .inl (cI, 22, .inl m_law)), (a_of, .inl (cI, 26, .inl o_18))] H := hP
          have hD : va_D A [(ax, .inr (8, [.int m_letterMany, .ref a_text, .int m_readAt, .ref a_told, .ref a_readLaw, .ref a_readNow, .ref a_law, .ref a_now, .ref a_tried, .int m_undoMany, .int m_undoAt, .ref a_undos, .int m_seenMany, .ref a_seenHour, .ref a_seenAt, .ref a_parts, .ref a_partsThen, .int m_keptMany, .ref a_kept])), (a_law, .inl (cI, 22, .inl m_law)), (a_of, .inl (cI, 26, .inl o_18))] := hD
          refine lv_pop hx hb dX8_draws_112 rfl ?_
          refine lv_goto (tgt := 145) hx hb dX8_draws_113 (by decide) ?_
          cases hF
          rw [hQ]
          exact xrv hC hP hS dX8_draws_145
        · have hF := op_neg c16 hF
          by_cases c20 : (jrem d0 (8 : Int32)) = (4 : Int32)
          · have hF := op_pos c20 hF
            refine lv_tableIn (x := (jrem d0 (8 : Int32))) (off := 112) (tgt := 134) hx hb dX8_draws_22 (by rw [c20]; decide) (by rw [c20]; decide) (by rw [c20]; rfl) (by decide) ?_
            refine lv_aload_n hx hb dX8_draws_134 rfl (lv_at hl 2 rfl) ?_
            refine lv_aload_n hx hb dX8_draws_135 rfl (lv_at hl 3 rfl) ?_
            refine lv_iload_n hx hb dX8_draws_136 rfl (lv_at hl 1 rfl) ?_
            refine lv_iload hx hb dX8_draws_137 (lv_at hl 0 rfl) ?_
            refine lv_iconst (v := (2 : Int32)) hx hb dX8_draws_139 (by decide) ?_
            refine lv_irem hx hb dX8_draws_140 (by decide) ?_
            obtain ⟨⟨r21, o_22⟩, hb23, hF⟩ := op_bind hF
            refine xVi (As := [.ref a_of, .int (jrem (d0 / (8 : Int32)) (m_law (2 : Int32).toNatClampNeg)), .int (jrem (d0 / (64 : Int32)) (2 : Int32))]) (rest := []) hC hP hD hS [0, 1, 2] (c_X8_walks l D cI cC cM ax a_law a_of a_text a_told a_readLaw a_readNow a_now a_tried a_undos a_seenHour a_seenAt a_parts a_partsThen a_kept m_letterMany m_readAt m_undoMany m_undoAt m_seenMany m_keptMany m_law o (jrem (d0 / (8 : Int32)) (m_law (2 : Int32).toNatClampNeg)) (jrem (d0 / (64 : Int32)) (2 : Int32)) r21 o_22 hb23) (cwV 3 hts gX8_draws_X8_walks rfl rfl rfl ⟨rfl, pd_X8_walks⟩ ⟨Nat.le_of_ble_eq_true rfl, Nat.le_of_ble_eq_true rfl⟩) rfl rfl rfl 0 8 rfl rfl rfl rfl hl.1 rfl (Nat.le_of_ble_eq_true rfl) dX8_draws_141 ⟨Nat.zero_le _, Nat.zero_le _⟩ (fun H locs hP hD hS => ?_)
            have hP : va_P D vwCl [(ax, .inr (8, [.int m_letterMany, .ref a_text, .int m_readAt, .ref a_told, .ref a_readLaw, .ref a_readNow, .ref a_law, .ref a_now, .ref a_tried, .int m_undoMany, .int m_undoAt, .ref a_undos, .int m_seenMany, .ref a_seenHour, .ref a_seenAt, .ref a_parts, .ref a_partsThen, .int m_keptMany, .ref a_kept])), (a_law, .inl (cI, 22, .inl m_law)), (a_of, .inl (cI, 26, .inl o_22))] H := hP
            have hD : va_D A [(ax, .inr (8, [.int m_letterMany, .ref a_text, .int m_readAt, .ref a_told, .ref a_readLaw, .ref a_readNow, .ref a_law, .ref a_now, .ref a_tried, .int m_undoMany, .int m_undoAt, .ref a_undos, .int m_seenMany, .ref a_seenHour, .ref a_seenAt, .ref a_parts, .ref a_partsThen, .int m_keptMany, .ref a_kept])), (a_law, .inl (cI, 22, .inl m_law)), (a_of, .inl (cI, 26, .inl o_22))] := hD
            refine lv_pop hx hb dX8_draws_144 rfl ?_
            cases hF
            rw [hQ]
            exact xrv hC hP hS dX8_draws_145
          · have hF := op_neg c20 hF
            by_cases c24 : (jrem d0 (8 : Int32)) = (5 : Int32)
            · have hF := op_pos c24 hF
              refine lv_tableIn (x := (jrem d0 (8 : Int32))) (off := 112) (tgt := 134) hx hb dX8_draws_22 (by rw [c24]; decide) (by rw [c24]; decide) (by rw [c24]; rfl) (by decide) ?_
              refine lv_aload_n hx hb dX8_draws_134 rfl (lv_at hl 2 rfl) ?_
              refine lv_aload_n hx hb dX8_draws_135 rfl (lv_at hl 3 rfl) ?_
              refine lv_iload_n hx hb dX8_draws_136 rfl (lv_at hl 1 rfl) ?_
              refine lv_iload hx hb dX8_draws_137 (lv_at hl 0 rfl) ?_
              refine lv_iconst (v := (2 : Int32)) hx hb dX8_draws_139 (by decide) ?_
              refine lv_irem hx hb dX8_draws_140 (by decide) ?_
              obtain ⟨⟨r25, o_26⟩, hb27, hF⟩ := op_bind hF
              refine xVi (As := [.ref a_of, .int (jrem (d0 / (8 : Int32)) (m_law (2 : Int32).toNatClampNeg)), .int (jrem (d0 / (64 : Int32)) (2 : Int32))]) (rest := []) hC hP hD hS [0, 1, 2] (c_X8_walks l D cI cC cM ax a_law a_of a_text a_told a_readLaw a_readNow a_now a_tried a_undos a_seenHour a_seenAt a_parts a_partsThen a_kept m_letterMany m_readAt m_undoMany m_undoAt m_seenMany m_keptMany m_law o (jrem (d0 / (8 : Int32)) (m_law (2 : Int32).toNatClampNeg)) (jrem (d0 / (64 : Int32)) (2 : Int32)) r25 o_26 hb27) (cwV 3 hts gX8_draws_X8_walks rfl rfl rfl ⟨rfl, pd_X8_walks⟩ ⟨Nat.le_of_ble_eq_true rfl, Nat.le_of_ble_eq_true rfl⟩) rfl rfl rfl 0 8 rfl rfl rfl rfl hl.1 rfl (Nat.le_of_ble_eq_true rfl) dX8_draws_141 ⟨Nat.zero_le _, Nat.zero_le _⟩ (fun H locs hP hD hS => ?_)
              have hP : va_P D vwCl [(ax, .inr (8, [.int m_letterMany, .ref a_text, .int m_readAt, .ref a_told, .ref a_readLaw, .ref a_readNow, .ref a_law, .ref a_now, .ref a_tried, .int m_undoMany, .int m_undoAt, .ref a_undos, .int m_seenMany, .ref a_seenHour, .ref a_seenAt, .ref a_parts, .ref a_partsThen, .int m_keptMany, .ref a_kept])), (a_law, .inl (cI, 22, .inl m_law)), (a_of, .inl (cI, 26, .inl o_26))] H := hP
              have hD : va_D A [(ax, .inr (8, [.int m_letterMany, .ref a_text, .int m_readAt, .ref a_told, .ref a_readLaw, .ref a_readNow, .ref a_law, .ref a_now, .ref a_tried, .int m_undoMany, .int m_undoAt, .ref a_undos, .int m_seenMany, .ref a_seenHour, .ref a_seenAt, .ref a_parts, .ref a_partsThen, .int m_keptMany, .ref a_kept])), (a_law, .inl (cI, 22, .inl m_law)), (a_of, .inl (cI, 26, .inl o_26))] := hD
              refine lv_pop hx hb dX8_draws_144 rfl ?_
              cases hF
              rw [hQ]
              exact xrv hC hP hS dX8_draws_145
            · have hF := op_neg c24 hF
              by_cases c28 : (jrem d0 (8 : Int32)) = (6 : Int32)
              · have hF := op_pos c28 hF
                refine lv_tableIn (x := (jrem d0 (8 : Int32))) (off := 112) (tgt := 134) hx hb dX8_draws_22 (by rw [c28]; decide) (by rw [c28]; decide) (by rw [c28]; rfl) (by decide) ?_
                refine lv_aload_n hx hb dX8_draws_134 rfl (lv_at hl 2 rfl) ?_
                refine lv_aload_n hx hb dX8_draws_135 rfl (lv_at hl 3 rfl) ?_
                refine lv_iload_n hx hb dX8_draws_136 rfl (lv_at hl 1 rfl) ?_
                refine lv_iload hx hb dX8_draws_137 (lv_at hl 0 rfl) ?_
                refine lv_iconst (v := (2 : Int32)) hx hb dX8_draws_139 (by decide) ?_
                refine lv_irem hx hb dX8_draws_140 (by decide) ?_
                obtain ⟨⟨r29, o_30⟩, hb31, hF⟩ := op_bind hF
                refine xVi (As := [.ref a_of, .int (jrem (d0 / (8 : Int32)) (m_law (2 : Int32).toNatClampNeg)), .int (jrem (d0 / (64 : Int32)) (2 : Int32))]) (rest := []) hC hP hD hS [0, 1, 2] (c_X8_walks l D cI cC cM ax a_law a_of a_text a_told a_readLaw a_readNow a_now a_tried a_undos a_seenHour a_seenAt a_parts a_partsThen a_kept m_letterMany m_readAt m_undoMany m_undoAt m_seenMany m_keptMany m_law o (jrem (d0 / (8 : Int32)) (m_law (2 : Int32).toNatClampNeg)) (jrem (d0 / (64 : Int32)) (2 : Int32)) r29 o_30 hb31) (cwV 3 hts gX8_draws_X8_walks rfl rfl rfl ⟨rfl, pd_X8_walks⟩ ⟨Nat.le_of_ble_eq_true rfl, Nat.le_of_ble_eq_true rfl⟩) rfl rfl rfl 0 8 rfl rfl rfl rfl hl.1 rfl (Nat.le_of_ble_eq_true rfl) dX8_draws_141 ⟨Nat.zero_le _, Nat.zero_le _⟩ (fun H locs hP hD hS => ?_)
                have hP : va_P D vwCl [(ax, .inr (8, [.int m_letterMany, .ref a_text, .int m_readAt, .ref a_told, .ref a_readLaw, .ref a_readNow, .ref a_law, .ref a_now, .ref a_tried, .int m_undoMany, .int m_undoAt, .ref a_undos, .int m_seenMany, .ref a_seenHour, .ref a_seenAt, .ref a_parts, .ref a_partsThen, .int m_keptMany, .ref a_kept])), (a_law, .inl (cI, 22, .inl m_law)), (a_of, .inl (cI, 26, .inl o_30))] H := hP
                have hD : va_D A [(ax, .inr (8, [.int m_letterMany, .ref a_text, .int m_readAt, .ref a_told, .ref a_readLaw, .ref a_readNow, .ref a_law, .ref a_now, .ref a_tried, .int m_undoMany, .int m_undoAt, .ref a_undos, .int m_seenMany, .ref a_seenHour, .ref a_seenAt, .ref a_parts, .ref a_partsThen, .int m_keptMany, .ref a_kept])), (a_law, .inl (cI, 22, .inl m_law)), (a_of, .inl (cI, 26, .inl o_30))] := hD
                refine lv_pop hx hb dX8_draws_144 rfl ?_
                cases hF
                rw [hQ]
                exact xrv hC hP hS dX8_draws_145
              · have hF := op_neg c28 hF
                by_cases c32 : (jrem d0 (8 : Int32)) = (7 : Int32)
                · have hF := op_pos c32 hF
                  refine lv_tableIn (x := (jrem d0 (8 : Int32))) (off := 94) (tgt := 116) hx hb dX8_draws_22 (by rw [c32]; decide) (by rw [c32]; decide) (by rw [c32]; rfl) (by decide) ?_
                  refine lv_aload_n hx hb dX8_draws_116 rfl (lv_at hl 2 rfl) ?_
                  refine lv_aload_n hx hb dX8_draws_117 rfl (lv_at hl 3 rfl) ?_
                  refine lv_iload hx hb dX8_draws_118 (lv_at hl 0 rfl) ?_
                  refine lv_aload_n hx hb dX8_draws_120 rfl (lv_at hl 2 rfl) ?_
                  refine va_get (D := D) (ci := 8) (v := .ref a_law) (C := RX8) (T := TX8) (N := 19) hx hb hts iX8 hown hK hP 0 rfl rfl 6 (by decide) k_f22 (fun _ h9 => h9) rfl dX8_draws_121 ?_
                  refine lv_iconst (v := (1 : Int32)) hx hb dX8_draws_124 (by decide) ?_
                  refine va_iald hx hb hK hP 1 0 rfl rfl (okb_in (by decide)) dX8_draws_125 ?_
                  obtain ⟨n33, hF⟩ := op_nz hF
                  refine lv_irem hx hb dX8_draws_126 n33 ?_
                  obtain ⟨⟨r34, o_35⟩, hb36, hF⟩ := op_bind hF
                  refine xVi (As := [.ref a_of, .int (jrem (d0 / (64 : Int32)) (m_law (1 : Int32).toNatClampNeg))]) (rest := []) hC hP hD hS [0, 1, 2] (c_X8_mends l D cI cC cM ax a_law a_of a_text a_told a_readLaw a_readNow a_now a_tried a_undos a_seenHour a_seenAt a_parts a_partsThen a_kept m_letterMany m_readAt m_undoMany m_undoAt m_seenMany m_keptMany m_law o (jrem (d0 / (64 : Int32)) (m_law (1 : Int32).toNatClampNeg)) r34 o_35 hb36) (cwV 2 hts gX8_draws_X8_mends rfl rfl rfl ⟨rfl, pd_X8_mends⟩ ⟨Nat.le_of_ble_eq_true rfl, Nat.le_of_ble_eq_true rfl⟩) rfl rfl rfl 0 8 rfl rfl rfl rfl hl.1 rfl (Nat.le_of_ble_eq_true rfl) dX8_draws_127 ⟨Nat.zero_le _, Nat.zero_le _⟩ (fun H locs hP hD hS => ?_)
                  have hP : va_P D vwCl [(ax, .inr (8, [.int m_letterMany, .ref a_text, .int m_readAt, .ref a_told, .ref a_readLaw, .ref a_readNow, .ref a_law, .ref a_now, .ref a_tried, .int m_undoMany, .int m_undoAt, .ref a_undos, .int m_seenMany, .ref a_seenHour, .ref a_seenAt, .ref a_parts, .ref a_partsThen, .int m_keptMany, .ref a_kept])), (a_law, .inl (cI, 22, .inl m_law)), (a_of, .inl (cI, 26, .inl o_35))] H := hP
                  have hD : va_D A [(ax, .inr (8, [.int m_letterMany, .ref a_text, .int m_readAt, .ref a_told, .ref a_readLaw, .ref a_readNow, .ref a_law, .ref a_now, .ref a_tried, .int m_undoMany, .int m_undoAt, .ref a_undos, .int m_seenMany, .ref a_seenHour, .ref a_seenAt, .ref a_parts, .ref a_partsThen, .int m_keptMany, .ref a_kept])), (a_law, .inl (cI, 22, .inl m_law)), (a_of, .inl (cI, 26, .inl o_35))] := hD
                  refine lv_pop hx hb dX8_draws_130 rfl ?_
                  refine lv_goto (tgt := 145) hx hb dX8_draws_131 (by decide) ?_
                  cases hF
                  rw [hQ]
                  exact xrv hC hP hS dX8_draws_145
                · have hF := op_neg c32 hF
                  refine lv_tableOut (x := (jrem d0 (8 : Int32))) (tgt := 134) hx hb dX8_draws_22 (by have n0 := lv_neT (a := 0) c2 rfl; have n1 := lv_neT (a := 1) c7 rfl; have n2 := lv_neT (a := 2) c12 rfl; have n3 := lv_neT (a := 3) c16 rfl; have n4 := lv_neT (a := 4) c20 rfl; have n5 := lv_neT (a := 5) c24 rfl; have n6 := lv_neT (a := 6) c28 rfl; have n7 := lv_neT (a := 7) c32 rfl; omega) (by decide) ?_
                  refine lv_aload_n hx hb dX8_draws_134 rfl (lv_at hl 2 rfl) ?_
                  refine lv_aload_n hx hb dX8_draws_135 rfl (lv_at hl 3 rfl) ?_
                  refine lv_iload_n hx hb dX8_draws_136 rfl (lv_at hl 1 rfl) ?_
                  refine lv_iload hx hb dX8_draws_137 (lv_at hl 0 rfl) ?_
                  refine lv_iconst (v := (2 : Int32)) hx hb dX8_draws_139 (by decide) ?_
                  refine lv_irem hx hb dX8_draws_140 (by decide) ?_
                  obtain ⟨⟨r37, o_38⟩, hb39, hF⟩ := op_bind hF
                  refine xVi (As := [.ref a_of, .int (jrem (d0 / (8 : Int32)) (m_law (2 : Int32).toNatClampNeg)), .int (jrem (d0 / (64 : Int32)) (2 : Int32))]) (rest := []) hC hP hD hS [0, 1, 2] (c_X8_walks l D cI cC cM ax a_law a_of a_text a_told a_readLaw a_readNow a_now a_tried a_undos a_seenHour a_seenAt a_parts a_partsThen a_kept m_letterMany m_readAt m_undoMany m_undoAt m_seenMany m_keptMany m_law o (jrem (d0 / (8 : Int32)) (m_law (2 : Int32).toNatClampNeg)) (jrem (d0 / (64 : Int32)) (2 : Int32)) r37 o_38 hb39) (cwV 3 hts gX8_draws_X8_walks rfl rfl rfl ⟨rfl, pd_X8_walks⟩ ⟨Nat.le_of_ble_eq_true rfl, Nat.le_of_ble_eq_true rfl⟩) rfl rfl rfl 0 8 rfl rfl rfl rfl hl.1 rfl (Nat.le_of_ble_eq_true rfl) dX8_draws_141 ⟨Nat.zero_le _, Nat.zero_le _⟩ (fun H locs hP hD hS => ?_)
                  have hP : va_P D vwCl [(ax, .inr (8, [.int m_letterMany, .ref a_text, .int m_readAt, .ref a_told, .ref a_readLaw, .ref a_readNow, .ref a_law, .ref a_now, .ref a_tried, .int m_undoMany, .int m_undoAt, .ref a_undos, .int m_seenMany, .ref a_seenHour, .ref a_seenAt, .ref a_parts, .ref a_partsThen, .int m_keptMany, .ref a_kept])), (a_law, .inl (cI, 22, .inl m_law)), (a_of, .inl (cI, 26, .inl o_38))] H := hP
                  have hD : va_D A [(ax, .inr (8, [.int m_letterMany, .ref a_text, .int m_readAt, .ref a_told, .ref a_readLaw, .ref a_readNow, .ref a_law, .ref a_now, .ref a_tried, .int m_undoMany, .int m_undoAt, .ref a_undos, .int m_seenMany, .ref a_seenHour, .ref a_seenAt, .ref a_parts, .ref a_partsThen, .int m_keptMany, .ref a_kept])), (a_law, .inl (cI, 22, .inl m_law)), (a_of, .inl (cI, 26, .inl o_38))] := hD
                  refine lv_pop hx hb dX8_draws_144 rfl ?_
                  cases hF
                  rw [hQ]
                  exact xrv hC hP hS dX8_draws_145

def f_X8_day_L39 (n : Int32) (m_law : (Nat → Int32)) (z : Int32) (k39 : Int32 → (Nat → Int32) → Option (Int32 × (Nat → Int32))) : Nat → Int32 → (Nat → Int32) → Option (Int32 × (Nat → Int32))
  | 0, _, _ => none
  | nf39 + 1, v12, m_tried_13 => (if n ≤ v12 then (k39 v12 m_tried_13) else (Option.bind (f_X8_draws m_law m_tried_13 ((jlrem (((((7919 : Int64) * (z).toInt64) + ((6151 : Int64) * (v12).toInt64)) + (1 : Int64)) * ((((7919 : Int64) * (z).toInt64) + ((6151 : Int64) * (v12).toInt64)) + (1 : Int64))) (65521 : Int64))).toInt32) fun o_15 => (Option.bind (f_X8_goes m_law o_15) fun o_17 => (f_X8_day_L39 n m_law z k39 nf39 (v12 + (1 : Int32)) o_17))))
theorem f_X8_day_L39_0 (n : Int32) (m_law : (Nat → Int32)) (z : Int32) (k39 : Int32 → (Nat → Int32) → Option (Int32 × (Nat → Int32))) (v12 : Int32) (m_tried_13 : (Nat → Int32)) : f_X8_day_L39 n m_law z k39 0 v12 m_tried_13 = none := rfl
theorem f_X8_day_L39_s (n : Int32) (m_law : (Nat → Int32)) (z : Int32) (k39 : Int32 → (Nat → Int32) → Option (Int32 × (Nat → Int32))) (nf39 : Nat) (v12 : Int32) (m_tried_13 : (Nat → Int32)) : f_X8_day_L39 n m_law z k39 (nf39 + 1) v12 m_tried_13 = (if n ≤ v12 then (k39 v12 m_tried_13) else (Option.bind (f_X8_draws m_law m_tried_13 ((jlrem (((((7919 : Int64) * (z).toInt64) + ((6151 : Int64) * (v12).toInt64)) + (1 : Int64)) * ((((7919 : Int64) * (z).toInt64) + ((6151 : Int64) * (v12).toInt64)) + (1 : Int64))) (65521 : Int64))).toInt32) fun o_15 => (Option.bind (f_X8_goes m_law o_15) fun o_17 => (f_X8_day_L39 n m_law z k39 nf39 (v12 + (1 : Int32)) o_17)))) := rfl

def f_X8_day (m_law : (Nat → Int32)) (m_now : (Nat → Int32)) (m_tried : (Nat → Int32)) (z : Int32) (n : Int32) (w : Int32) : Option (Int32 × (Nat → Int32)) := (Option.bind (f_X8_in z (0 : Int32) (9999 : Int32)) fun r1 => (if r1 = 0 then (some ((-1 : Int32), m_tried)) else (Option.bind (f_X8_in n (1 : Int32) (60 : Int32)) fun r4 => (if r4 = 0 then (some ((-1 : Int32), m_tried)) else (Option.bind (f_X8_in w (0 : Int32) (1 : Int32)) fun r7 => (if r7 = 0 then (some ((-1 : Int32), m_tried)) else (Option.bind (f_X8_copyNow m_now m_tried) fun m_tried_10 => (f_X8_day_L39 n m_law z (fun (v12 : Int32) (m_tried_13 : (Nat → Int32)) => (if w = 0 then (Option.bind (f_X8_bits (m_tried_13 (2 : Int32).toNatClampNeg)) fun r20 => (some (r20, m_tried_13))) else (some (((m_tried_13 (1 : Int32).toNatClampNeg) - (m_now (1 : Int32).toNatClampNeg)), m_tried_13)))) 20000 (0 : Int32) m_tried_10))))))))

def rm_X8_day : Room := { frames := 4, cells := 0, slots := 0, locals := 90 }

theorem pd_X8_day : yX8_day.cls ≠ "java/lang/invoke/MethodHandle" ∧ yX8_day.cls ≠ "java/lang/invoke/VarHandle" ∧ (parseMethodDescriptor yX8_day.desc).map (fun d => d.parameters.length) = some 3 := by decide +kernel

set_option maxHeartbeats 4000000 in
set_option maxRecDepth 100000 in
theorem c_X8_day (l : Launch) (D : va_G) (cI cC cM : ClassId) (ax a_law a_now a_tried a_text a_told a_readLaw a_readNow a_undos a_seenHour a_seenAt a_parts a_partsThen a_kept : Nat) (m_letterMany : Int32) (m_readAt : Int32) (m_undoMany : Int32) (m_undoAt : Int32) (m_seenMany : Int32) (m_keptMany : Int32) (m_law : (Nat → Int32)) (m_now : (Nat → Int32)) (m_tried : (Nat → Int32)) (z : Int32) (n : Int32) (w : Int32) (rr : Int32) (m_tried' : (Nat → Int32)) (hF : f_X8_day m_law m_now m_tried z n w = some (rr, m_tried')) : CI l D cI cC cM yX8_day wsX8_day rm_X8_day [.ref ax, .int z, .int n, .int w] [(ax, .inr (8, [.int m_letterMany, .ref a_text, .int m_readAt, .ref a_told, .ref a_readLaw, .ref a_readNow, .ref a_law, .ref a_now, .ref a_tried, .int m_undoMany, .int m_undoAt, .ref a_undos, .int m_seenMany, .ref a_seenHour, .ref a_seenAt, .ref a_parts, .ref a_partsThen, .int m_keptMany, .ref a_kept])), (a_law, .inl (cI, 22, .inl m_law)), (a_now, .inl (cI, 26, .inl m_now)), (a_tried, .inl (cI, 26, .inl m_tried))] [(ax, .inr (8, [.int m_letterMany, .ref a_text, .int m_readAt, .ref a_told, .ref a_readLaw, .ref a_readNow, .ref a_law, .ref a_now, .ref a_tried, .int m_undoMany, .int m_undoAt, .ref a_undos, .int m_seenMany, .ref a_seenHour, .ref a_seenAt, .ref a_parts, .ref a_partsThen, .int m_keptMany, .ref a_kept])), (a_law, .inl (cI, 22, .inl m_law)), (a_now, .inl (cI, 26, .inl m_now)), (a_tried, .inl (cI, 26, .inl m_tried'))] rr := by
  refine CI.of (cc := cX8_day) (nL := 7) (ret := (some .int)) (by decide) rfl (Nat.le_of_ble_eq_true rfl) ?_
  intro p e s m args below meth c A hC hP hD hS ls hl
  obtain ⟨hx, hb, hml, hown, hts, hr, hlk, hG, hA⟩ := id hC
  have hown : s.vm.findClass RX8 = some m.cls := hown
  have hK := hG.1
  have hl : lv_has ls 7 [(0, .ref ax), (1, .int z), (2, .int n), (3, .int w)] := hl
  have k_cst214 := hts (.constantLong RX8 214 (7919)) (List.mem_of_getElem? (i := 1) rfl)
  have k_cst216 := hts (.constantLong RX8 216 (6151)) (List.mem_of_getElem? (i := 2) rfl)
  have k_f28 := hts (.fieldLink RX8 28 "ParasolHoursModel" "tried" "[I") (List.mem_of_getElem? (i := 3) rfl)
  have k_cst218 := hts (.constantLong RX8 218 (65521)) (List.mem_of_getElem? (i := 4) rfl)
  have k_f25 := hts (.fieldLink RX8 25 "ParasolHoursModel" "now" "[I") (List.mem_of_getElem? (i := 5) rfl)
  have iX8 : ∀ w ∈ wsX80, w ∈ wsX8_day := by decide +kernel
  obtain ⟨Q, hQ⟩ : ∃ Q, Q = MQ below (QI D [(ax, .inr (8, [.int m_letterMany, .ref a_text, .int m_readAt, .ref a_told, .ref a_readLaw, .ref a_readNow, .ref a_law, .ref a_now, .ref a_tried, .int m_undoMany, .int m_undoAt, .ref a_undos, .int m_seenMany, .ref a_seenHour, .ref a_seenAt, .ref a_parts, .ref a_partsThen, .int m_keptMany, .ref a_kept])), (a_law, .inl (cI, 22, .inl m_law)), (a_now, .inl (cI, 26, .inl m_now)), (a_tried, .inl (cI, 26, .inl m_tried'))] rr A) args s 0 0 A := ⟨_, rfl⟩
  rw [← hQ]
  unfold f_X8_day at hF
  refine lv_iload_n hx hb dX8_day_0 rfl (lv_at hl 1 rfl) ?_
  refine lv_iconst (v := (0 : Int32)) hx hb dX8_day_1 (by decide) ?_
  refine lv_sipush (v := (9999 : Int32)) hx hb dX8_day_2 (by decide) ?_
  obtain ⟨r1, hb2, hF⟩ := op_bind hF
  refine xSr (As := [.int z, .int (0 : Int32), .int (9999 : Int32)]) (rest := []) hC hP hD hS [] (c_X8_in l D cI cC cM z (0 : Int32) (9999 : Int32) r1 hb2) (va_cwS 3 hts gX8_day_X8_in rfl rfl rfl pd_X8_in ⟨Nat.le_of_ble_eq_true rfl, Nat.le_of_ble_eq_true rfl⟩) rfl rfl rfl hl.1 rfl (Nat.le_of_ble_eq_true rfl) dX8_day_5 ⟨Nat.zero_le _, Nat.zero_le _⟩ (fun H locs hP hS => ?_)
  refine lv_if_eq (tgt := 30) hx hb dX8_day_8 (by decide) (fun c3 => ?_) (fun c3 => ?_)
  · have hF := op_pos c3 hF
    refine lv_iconst (v := (-1 : Int32)) hx hb dX8_day_30 (by decide) ?_
    cases hF
    rw [hQ]
    exact xri hC hP hS dX8_day_31
  · have hF := op_neg c3 hF
    refine lv_iload_n hx hb dX8_day_11 rfl (lv_at hl 2 rfl) ?_
    refine lv_iconst (v := (1 : Int32)) hx hb dX8_day_12 (by decide) ?_
    refine lv_bipush (v := (60 : Int32)) hx hb dX8_day_13 (by decide) ?_
    obtain ⟨r4, hb5, hF⟩ := op_bind hF
    refine xSr (As := [.int n, .int (1 : Int32), .int (60 : Int32)]) (rest := []) hC hP hD hS [] (c_X8_in l D cI cC cM n (1 : Int32) (60 : Int32) r4 hb5) (va_cwS 3 hts gX8_day_X8_in rfl rfl rfl pd_X8_in ⟨Nat.le_of_ble_eq_true rfl, Nat.le_of_ble_eq_true rfl⟩) rfl rfl rfl hl.1 rfl (Nat.le_of_ble_eq_true rfl) dX8_day_15 ⟨Nat.zero_le _, Nat.zero_le _⟩ (fun H locs hP hS => ?_)
    refine lv_if_eq (tgt := 30) hx hb dX8_day_18 (by decide) (fun c6 => ?_) (fun c6 => ?_)
    · have hF := op_pos c6 hF
      refine lv_iconst (v := (-1 : Int32)) hx hb dX8_day_30 (by decide) ?_
      cases hF
      rw [hQ]
      exact xri hC hP hS dX8_day_31
    · have hF := op_neg c6 hF
      refine lv_iload_n hx hb dX8_day_21 rfl (lv_at hl 3 rfl) ?_
      refine lv_iconst (v := (0 : Int32)) hx hb dX8_day_22 (by decide) ?_
      refine lv_iconst (v := (1 : Int32)) hx hb dX8_day_23 (by decide) ?_
      obtain ⟨r7, hb8, hF⟩ := op_bind hF
      refine xSr (As := [.int w, .int (0 : Int32), .int (1 : Int32)]) (rest := []) hC hP hD hS [] (c_X8_in l D cI cC cM w (0 : Int32) (1 : Int32) r7 hb8) (va_cwS 3 hts gX8_day_X8_in rfl rfl rfl pd_X8_in ⟨Nat.le_of_ble_eq_true rfl, Nat.le_of_ble_eq_true rfl⟩) rfl rfl rfl hl.1 rfl (Nat.le_of_ble_eq_true rfl) dX8_day_24 ⟨Nat.zero_le _, Nat.zero_le _⟩ (fun H locs hP hS => ?_)
      refine lv_if_ne (tgt := 32) hx hb dX8_day_27 (by decide) (fun c9 => ?_) (fun c9 => ?_)
      · have hF := op_neg c9 hF
        refine lv_aload_n hx hb dX8_day_32 rfl (lv_at hl 0 rfl) ?_
        obtain ⟨m_tried_10, hb11, hF⟩ := op_bind hF
        refine xVv (As := []) (rest := []) hC hP hD hS [0, 2, 3] (c_X8_copyNow l D cI cC cM ax a_now a_tried a_text a_told a_readLaw a_readNow a_law a_undos a_seenHour a_seenAt a_parts a_partsThen a_kept m_letterMany m_readAt m_undoMany m_undoAt m_seenMany m_keptMany m_now m_tried m_tried_10 hb11) (cwV 0 hts gX8_day_X8_copyNow rfl rfl rfl ⟨rfl, pd_X8_copyNow⟩ ⟨Nat.le_of_ble_eq_true rfl, Nat.le_of_ble_eq_true rfl⟩) rfl rfl rfl 0 8 rfl rfl rfl rfl hl.1 rfl (Nat.le_of_ble_eq_true rfl) dX8_day_33 ⟨Nat.zero_le _, Nat.zero_le _⟩ (fun H locs hP hD hS => ?_)
        have hP : va_P D vwCl [(ax, .inr (8, [.int m_letterMany, .ref a_text, .int m_readAt, .ref a_told, .ref a_readLaw, .ref a_readNow, .ref a_law, .ref a_now, .ref a_tried, .int m_undoMany, .int m_undoAt, .ref a_undos, .int m_seenMany, .ref a_seenHour, .ref a_seenAt, .ref a_parts, .ref a_partsThen, .int m_keptMany, .ref a_kept])), (a_law, .inl (cI, 22, .inl m_law)), (a_now, .inl (cI, 26, .inl m_now)), (a_tried, .inl (cI, 26, .inl m_tried_10))] H := hP
        have hD : va_D A [(ax, .inr (8, [.int m_letterMany, .ref a_text, .int m_readAt, .ref a_told, .ref a_readLaw, .ref a_readNow, .ref a_law, .ref a_now, .ref a_tried, .int m_undoMany, .int m_undoAt, .ref a_undos, .int m_seenMany, .ref a_seenHour, .ref a_seenAt, .ref a_parts, .ref a_partsThen, .int m_keptMany, .ref a_kept])), (a_law, .inl (cI, 22, .inl m_law)), (a_now, .inl (cI, 26, .inl m_now)), (a_tried, .inl (cI, 26, .inl m_tried_10))] := hD
        refine lv_iconst (v := (0 : Int32)) hx hb dX8_day_36 (by decide) ?_
        refine lv_istore (lv' := [(4, .int (0 : Int32)), (0, .ref ax), (1, .int z), (2, .int n), (3, .int w)]) hx hb dX8_day_37 hl (by decide) rfl (fun ls hl => ?_)
        have hL39 : ∀ (k39 : Int32 → (Nat → Int32) → Option (Int32 × (Nat → Int32))), (∀ (v12 : Int32) (m_tried_13 : (Nat → Int32)) (H : Heap) (locs : List Loc), va_P D vwCl [(ax, .inr (8, [.int m_letterMany, .ref a_text, .int m_readAt, .ref a_told, .ref a_readLaw, .ref a_readNow, .ref a_law, .ref a_now, .ref a_tried, .int m_undoMany, .int m_undoAt, .ref a_undos, .int m_seenMany, .ref a_seenHour, .ref a_seenAt, .ref a_parts, .ref a_partsThen, .int m_keptMany, .ref a_kept])), (a_law, .inl (cI, 22, .inl m_law)), (a_now, .inl (cI, 26, .inl m_now)), (a_tried, .inl (cI, 26, .inl m_tried_13))] H → va_D A [(ax, .inr (8, [.int m_letterMany, .ref a_text, .int m_readAt, .ref a_told, .ref a_readLaw, .ref a_readNow, .ref a_law, .ref a_now, .ref a_tried, .int m_undoMany, .int m_undoAt, .ref a_undos, .int m_seenMany, .ref a_seenHour, .ref a_seenAt, .ref a_parts, .ref a_partsThen, .int m_keptMany, .ref a_kept])), (a_law, .inl (cI, 22, .inl m_law)), (a_now, .inl (cI, 26, .inl m_now)), (a_tried, .inl (cI, 26, .inl m_tried_13))] → va_S A s.heap H locs → ∀ ls : Array Slot, lv_has ls 7 [(0, .ref ax), (3, .int w)] → k39 v12 m_tried_13 = some (rr, m_tried') → W p l e rm_X8_day s m args below meth c H locs 0 0 Q (F0 m 95 ls [])) → ∀ (nf39 : Nat) (v12 : Int32) (m_tried_13 : (Nat → Int32)) (H : Heap) (locs : List Loc), va_P D vwCl [(ax, .inr (8, [.int m_letterMany, .ref a_text, .int m_readAt, .ref a_told, .ref a_readLaw, .ref a_readNow, .ref a_law, .ref a_now, .ref a_tried, .int m_undoMany, .int m_undoAt, .ref a_undos, .int m_seenMany, .ref a_seenHour, .ref a_seenAt, .ref a_parts, .ref a_partsThen, .int m_keptMany, .ref a_kept])), (a_law, .inl (cI, 22, .inl m_law)), (a_now, .inl (cI, 26, .inl m_now)), (a_tried, .inl (cI, 26, .inl m_tried_13))] H → va_D A [(ax, .inr (8, [.int m_letterMany, .ref a_text, .int m_readAt, .ref a_told, .ref a_readLaw, .ref a_readNow, .ref a_law, .ref a_now, .ref a_tried, .int m_undoMany, .int m_undoAt, .ref a_undos, .int m_seenMany, .ref a_seenHour, .ref a_seenAt, .ref a_parts, .ref a_partsThen, .int m_keptMany, .ref a_kept])), (a_law, .inl (cI, 22, .inl m_law)), (a_now, .inl (cI, 26, .inl m_now)), (a_tried, .inl (cI, 26, .inl m_tried_13))] → va_S A s.heap H locs → ∀ ls : Array Slot, lv_has ls 7 [(4, .int v12), (0, .ref ax), (1, .int z), (2, .int n), (3, .int w)] → f_X8_day_L39 n m_law z k39 nf39 v12 m_tried_13 = some (rr, m_tried') → W p l e rm_X8_day s m args below meth c H locs 0 0 Q (F0 m 39 ls []) := by
          intro k39 hk39 nf39
          induction nf39 with
          | zero =>
            intro v12 m_tried_13 H locs hP hD hS ls hl hF
            rw [f_X8_day_L39_0] at hF
            cases hF
          | succ nf39 ih39 =>
            intro v12 m_tried_13 H locs hP hD hS ls hl hF
            rw [f_X8_day_L39_s] at hF
            refine lv_iload hx hb dX8_day_39 (lv_at hl 0 rfl) ?_
            refine lv_iload_n hx hb dX8_day_41 rfl (lv_at hl 3 rfl) ?_
            refine lv_icmp_ge (tgt := 95) hx hb dX8_day_42 (by decide) (fun c14 => ?_) (fun c14 => ?_)
            · have hF := op_pos c14 hF
              exact hk39 v12 m_tried_13 _ _ hP hD hS _ (lv_sub hl [1, 4] rfl) hF
            · have hF := op_neg c14 hF
              refine lv_ldc2 (v := (7919 : Int64)) hx hb hown k_cst214 dX8_day_45 ?_
              refine lv_iload_n hx hb dX8_day_48 rfl (lv_at hl 2 rfl) ?_
              refine lv_i2l (v := (z).toInt64) hx hb dX8_day_49 rfl ?_
              refine lv_lmul hx hb dX8_day_50 ?_
              refine lv_ldc2 (v := (6151 : Int64)) hx hb hown k_cst216 dX8_day_51 ?_
              refine lv_iload hx hb dX8_day_54 (lv_at hl 0 rfl) ?_
              refine lv_i2l (v := (v12).toInt64) hx hb dX8_day_56 rfl ?_
              refine lv_lmul hx hb dX8_day_57 ?_
              refine lv_ladd hx hb dX8_day_58 ?_
              refine lv_lconst (v := (1 : Int64)) hx hb dX8_day_59 (by decide) ?_
              refine lv_ladd hx hb dX8_day_60 ?_
              refine lv_lstore (lv' := [(5, .long ((((7919 : Int64) * (z).toInt64) + ((6151 : Int64) * (v12).toInt64)) + (1 : Int64))), (4, .int v12), (0, .ref ax), (1, .int z), (2, .int n), (3, .int w)]) hx hb dX8_day_61 hl (by decide) rfl (fun ls hl => ?_)
              refine lv_aload_n hx hb dX8_day_63 rfl (lv_at hl 2 rfl) ?_
              refine lv_aload_n hx hb dX8_day_64 rfl (lv_at hl 2 rfl) ?_
              refine va_get (D := D) (ci := 8) (v := .ref a_tried) (C := RX8) (T := TX8) (N := 19) hx hb hts iX8 hown hK hP 0 rfl rfl 8 (by decide) k_f28 (fun _ h9 => h9) rfl dX8_day_65 ?_
              refine lv_lload hx hb dX8_day_68 (lv_at hl 0 rfl) ?_
              refine lv_lload hx hb dX8_day_70 (lv_at hl 0 rfl) ?_
              refine lv_lmul hx hb dX8_day_72 ?_
              refine lv_ldc2 (v := (65521 : Int64)) hx hb hown k_cst218 dX8_day_73 ?_
              refine lv_lrem hx hb dX8_day_76 (by decide) ?_
              refine lv_l2i (v := ((jlrem (((((7919 : Int64) * (z).toInt64) + ((6151 : Int64) * (v12).toInt64)) + (1 : Int64)) * ((((7919 : Int64) * (z).toInt64) + ((6151 : Int64) * (v12).toInt64)) + (1 : Int64))) (65521 : Int64))).toInt32) hx hb dX8_day_77 rfl ?_
              obtain ⟨o_15, hb16, hF⟩ := op_bind hF
              refine xVv (As := [.ref a_tried, .int ((jlrem (((((7919 : Int64) * (z).toInt64) + ((6151 : Int64) * (v12).toInt64)) + (1 : Int64)) * ((((7919 : Int64) * (z).toInt64) + ((6151 : Int64) * (v12).toInt64)) + (1 : Int64))) (65521 : Int64))).toInt32]) (rest := []) hC hP hD hS [0, 1, 3] (c_X8_draws l D cI cC cM ax a_law a_tried a_text a_told a_readLaw a_readNow a_now a_tried a_undos a_seenHour a_seenAt a_parts a_partsThen a_kept m_letterMany m_readAt m_undoMany m_undoAt m_seenMany m_keptMany m_law m_tried_13 ((jlrem (((((7919 : Int64) * (z).toInt64) + ((6151 : Int64) * (v12).toInt64)) + (1 : Int64)) * ((((7919 : Int64) * (z).toInt64) + ((6151 : Int64) * (v12).toInt64)) + (1 : Int64))) (65521 : Int64))).toInt32 o_15 hb16) (cwV 2 hts gX8_day_X8_draws rfl rfl rfl ⟨rfl, pd_X8_draws⟩ ⟨Nat.le_of_ble_eq_true rfl, Nat.le_of_ble_eq_true rfl⟩) rfl rfl rfl 0 8 rfl rfl rfl rfl hl.1 rfl (Nat.le_of_ble_eq_true rfl) dX8_day_78 ⟨Nat.zero_le _, Nat.zero_le _⟩ (fun H locs hP hD hS => ?_)
              have hP : va_P D vwCl [(ax, .inr (8, [.int m_letterMany, .ref a_text, .int m_readAt, .ref a_told, .ref a_readLaw, .ref a_readNow, .ref a_law, .ref a_now, .ref a_tried, .int m_undoMany, .int m_undoAt, .ref a_undos, .int m_seenMany, .ref a_seenHour, .ref a_seenAt, .ref a_parts, .ref a_partsThen, .int m_keptMany, .ref a_kept])), (a_law, .inl (cI, 22, .inl m_law)), (a_now, .inl (cI, 26, .inl m_now)), (a_tried, .inl (cI, 26, .inl o_15))] H := hP
              have hD : va_D A [(ax, .inr (8, [.int m_letterMany, .ref a_text, .int m_readAt, .ref a_told, .ref a_readLaw, .ref a_readNow, .ref a_law, .ref a_now, .ref a_tried, .int m_undoMany, .int m_undoAt, .ref a_undos, .int m_seenMany, .ref a_seenHour, .ref a_seenAt, .ref a_parts, .ref a_partsThen, .int m_keptMany, .ref a_kept])), (a_law, .inl (cI, 22, .inl m_law)), (a_now, .inl (cI, 26, .inl m_now)), (a_tried, .inl (cI, 26, .inl o_15))] := hD
              refine lv_aload_n hx hb dX8_day_81 rfl (lv_at hl 2 rfl) ?_
              refine lv_aload_n hx hb dX8_day_82 rfl (lv_at hl 2 rfl) ?_
              refine va_get (D := D) (ci := 8) (v := .ref a_tried) (C := RX8) (T := TX8) (N := 19) hx hb hts iX8 hown hK hP 0 rfl rfl 8 (by decide) k_f28 (fun _ h9 => h9) rfl dX8_day_83 ?_
              obtain ⟨o_17, hb18, hF⟩ := op_bind hF
              refine xVv (As := [.ref a_tried]) (rest := []) hC hP hD hS [0, 1, 3] (c_X8_goes l D cI cC cM ax a_law a_tried a_text a_told a_readLaw a_readNow a_now a_tried a_undos a_seenHour a_seenAt a_parts a_partsThen a_kept m_letterMany m_readAt m_undoMany m_undoAt m_seenMany m_keptMany m_law o_15 o_17 hb18) (cwV 1 hts gX8_day_X8_goes rfl rfl rfl ⟨rfl, pd_X8_goes⟩ ⟨Nat.le_of_ble_eq_true rfl, Nat.le_of_ble_eq_true rfl⟩) rfl rfl rfl 0 8 rfl rfl rfl rfl hl.1 rfl (Nat.le_of_ble_eq_true rfl) dX8_day_86 ⟨Nat.zero_le _, Nat.zero_le _⟩ (fun H locs hP hD hS => ?_)
              have hP : va_P D vwCl [(ax, .inr (8, [.int m_letterMany, .ref a_text, .int m_readAt, .ref a_told, .ref a_readLaw, .ref a_readNow, .ref a_law, .ref a_now, .ref a_tried, .int m_undoMany, .int m_undoAt, .ref a_undos, .int m_seenMany, .ref a_seenHour, .ref a_seenAt, .ref a_parts, .ref a_partsThen, .int m_keptMany, .ref a_kept])), (a_law, .inl (cI, 22, .inl m_law)), (a_now, .inl (cI, 26, .inl m_now)), (a_tried, .inl (cI, 26, .inl o_17))] H := hP
              have hD : va_D A [(ax, .inr (8, [.int m_letterMany, .ref a_text, .int m_readAt, .ref a_told, .ref a_readLaw, .ref a_readNow, .ref a_law, .ref a_now, .ref a_tried, .int m_undoMany, .int m_undoAt, .ref a_undos, .int m_seenMany, .ref a_seenHour, .ref a_seenAt, .ref a_parts, .ref a_partsThen, .int m_keptMany, .ref a_kept])), (a_law, .inl (cI, 22, .inl m_law)), (a_now, .inl (cI, 26, .inl m_now)), (a_tried, .inl (cI, 26, .inl o_17))] := hD
              refine lv_iinc (v := (v12 + (1 : Int32))) (lv' := [(4, .int (v12 + (1 : Int32))), (5, .long ((((7919 : Int64) * (z).toInt64) + ((6151 : Int64) * (v12).toInt64)) + (1 : Int64))), (0, .ref ax), (1, .int z), (2, .int n), (3, .int w)]) hx hb dX8_day_89 hl (k := 1) rfl (by first | rfl | decide) (by decide) rfl (fun ls hl => ?_)
              refine lv_goto (tgt := 39) hx hb dX8_day_92 (by decide) ?_
              exact ih39 (v12 + (1 : Int32)) o_17 _ _ hP hD hS _ (lv_sub hl [0, 2, 3, 4, 5] rfl) hF
        refine hL39 _ (fun v12 m_tried_13 H locs hP hD hS ls hl hF => ?_) 20000 (0 : Int32) m_tried_10 _ _ hP hD hS _ (lv_sub hl [0, 1, 2, 3, 4] rfl) hF
        refine lv_iload_n hx hb dX8_day_95 rfl (lv_at hl 1 rfl) ?_
        refine lv_if_ne (tgt := 111) hx hb dX8_day_96 (by decide) (fun c19 => ?_) (fun c19 => ?_)
        · have hF := op_neg c19 hF
          refine lv_aload_n hx hb dX8_day_111 rfl (lv_at hl 0 rfl) ?_
          refine va_get (D := D) (ci := 8) (v := .ref a_tried) (C := RX8) (T := TX8) (N := 19) hx hb hts iX8 hown hK hP 0 rfl rfl 8 (by decide) k_f28 (fun _ h9 => h9) rfl dX8_day_112 ?_
          refine lv_iconst (v := (1 : Int32)) hx hb dX8_day_115 (by decide) ?_
          refine va_iald hx hb hK hP 3 0 rfl rfl (okb_in (by decide)) dX8_day_116 ?_
          refine lv_aload_n hx hb dX8_day_117 rfl (lv_at hl 0 rfl) ?_
          refine va_get (D := D) (ci := 8) (v := .ref a_now) (C := RX8) (T := TX8) (N := 19) hx hb hts iX8 hown hK hP 0 rfl rfl 7 (by decide) k_f25 (fun _ h9 => h9) rfl dX8_day_118 ?_
          refine lv_iconst (v := (1 : Int32)) hx hb dX8_day_121 (by decide) ?_
          refine va_iald hx hb hK hP 2 0 rfl rfl (okb_in (by decide)) dX8_day_122 ?_
          refine lv_isub hx hb dX8_day_123 ?_
          cases hF
          rw [hQ]
          exact xri hC hP hS dX8_day_124
        · have hF := op_pos c19 hF
          refine lv_aload_n hx hb dX8_day_99 rfl (lv_at hl 0 rfl) ?_
          refine va_get (D := D) (ci := 8) (v := .ref a_tried) (C := RX8) (T := TX8) (N := 19) hx hb hts iX8 hown hK hP 0 rfl rfl 8 (by decide) k_f28 (fun _ h9 => h9) rfl dX8_day_100 ?_
          refine lv_iconst (v := (2 : Int32)) hx hb dX8_day_103 (by decide) ?_
          refine va_iald hx hb hK hP 3 0 rfl rfl (okb_in (by decide)) dX8_day_104 ?_
          obtain ⟨r20, hb21, hF⟩ := op_bind hF
          refine xSr (As := [.int (m_tried_13 (2 : Int32).toNatClampNeg)]) (rest := []) hC hP hD hS [] (c_X8_bits l D cI cC cM (m_tried_13 (2 : Int32).toNatClampNeg) r20 hb21) (va_cwS 1 hts gX8_day_X8_bits rfl rfl rfl pd_X8_bits ⟨Nat.le_of_ble_eq_true rfl, Nat.le_of_ble_eq_true rfl⟩) rfl rfl rfl hl.1 rfl (Nat.le_of_ble_eq_true rfl) dX8_day_105 ⟨Nat.zero_le _, Nat.zero_le _⟩ (fun H locs hP hS => ?_)
          refine lv_goto (tgt := 124) hx hb dX8_day_108 (by decide) ?_
          cases hF
          rw [hQ]
          exact xri hC hP hS dX8_day_124
      · have hF := op_pos c9 hF
        refine lv_iconst (v := (-1 : Int32)) hx hb dX8_day_30 (by decide) ?_
        cases hF
        rw [hQ]
        exact xri hC hP hS dX8_day_31

def f_X8_keep_L13 (m_keptMany : Int32) (m_now : (Nat → Int32)) (k13 : Int32 → (Nat → Int32) → Option (Int32 × Int32 × (Nat → Int32))) : Nat → Int32 → (Nat → Int32) → Option (Int32 × Int32 × (Nat → Int32))
  | 0, _, _ => none
  | nf13 + 1, v2, m_kept_3 => (if (26 : Int32) ≤ v2 then (k13 v2 m_kept_3) else (if okb v2 26 = true then (if okb (((26 : Int32) * m_keptMany) + v2) 52 = true then (f_X8_keep_L13 m_keptMany m_now k13 nf13 (v2 + (1 : Int32)) (upd m_kept_3 (((26 : Int32) * m_keptMany) + v2).toNatClampNeg (m_now v2.toNatClampNeg))) else none) else none))
theorem f_X8_keep_L13_0 (m_keptMany : Int32) (m_now : (Nat → Int32)) (k13 : Int32 → (Nat → Int32) → Option (Int32 × Int32 × (Nat → Int32))) (v2 : Int32) (m_kept_3 : (Nat → Int32)) : f_X8_keep_L13 m_keptMany m_now k13 0 v2 m_kept_3 = none := rfl
theorem f_X8_keep_L13_s (m_keptMany : Int32) (m_now : (Nat → Int32)) (k13 : Int32 → (Nat → Int32) → Option (Int32 × Int32 × (Nat → Int32))) (nf13 : Nat) (v2 : Int32) (m_kept_3 : (Nat → Int32)) : f_X8_keep_L13 m_keptMany m_now k13 (nf13 + 1) v2 m_kept_3 = (if (26 : Int32) ≤ v2 then (k13 v2 m_kept_3) else (if okb v2 26 = true then (if okb (((26 : Int32) * m_keptMany) + v2) 52 = true then (f_X8_keep_L13 m_keptMany m_now k13 nf13 (v2 + (1 : Int32)) (upd m_kept_3 (((26 : Int32) * m_keptMany) + v2).toNatClampNeg (m_now v2.toNatClampNeg))) else none) else none)) := rfl

def f_X8_keep (m_keptMany : Int32) (m_now : (Nat → Int32)) (m_kept : (Nat → Int32)) : Option (Int32 × Int32 × (Nat → Int32)) := (if m_keptMany = (2 : Int32) then (some ((-3 : Int32), m_keptMany, m_kept)) else (f_X8_keep_L13 m_keptMany m_now (fun (v2 : Int32) (m_kept_3 : (Nat → Int32)) => (some ((m_keptMany + (1 : Int32)), (m_keptMany + (1 : Int32)), m_kept_3))) 20000 (0 : Int32) m_kept))

def rm_X8_keep : Room := { frames := 0, cells := 0, slots := 0, locals := 0 }

theorem pd_X8_keep : yX8_keep.cls ≠ "java/lang/invoke/MethodHandle" ∧ yX8_keep.cls ≠ "java/lang/invoke/VarHandle" ∧ (parseMethodDescriptor yX8_keep.desc).map (fun d => d.parameters.length) = some 0 := by decide +kernel

set_option maxHeartbeats 4000000 in
set_option maxRecDepth 100000 in
theorem c_X8_keep (l : Launch) (D : va_G) (cI cC cM : ClassId) (ax a_now a_kept a_text a_told a_readLaw a_readNow a_law a_tried a_undos a_seenHour a_seenAt a_parts a_partsThen : Nat) (m_letterMany : Int32) (m_readAt : Int32) (m_undoMany : Int32) (m_undoAt : Int32) (m_seenMany : Int32) (m_keptMany : Int32) (m_now : (Nat → Int32)) (m_kept : (Nat → Int32)) (rr : Int32) (m_keptMany' : Int32) (m_kept' : (Nat → Int32)) (hF : f_X8_keep m_keptMany m_now m_kept = some (rr, m_keptMany', m_kept')) : CI l D cI cC cM yX8_keep wsX8_keep rm_X8_keep [.ref ax] [(ax, .inr (8, [.int m_letterMany, .ref a_text, .int m_readAt, .ref a_told, .ref a_readLaw, .ref a_readNow, .ref a_law, .ref a_now, .ref a_tried, .int m_undoMany, .int m_undoAt, .ref a_undos, .int m_seenMany, .ref a_seenHour, .ref a_seenAt, .ref a_parts, .ref a_partsThen, .int m_keptMany, .ref a_kept])), (a_now, .inl (cI, 26, .inl m_now)), (a_kept, .inl (cI, 52, .inl m_kept))] [(ax, .inr (8, [.int m_letterMany, .ref a_text, .int m_readAt, .ref a_told, .ref a_readLaw, .ref a_readNow, .ref a_law, .ref a_now, .ref a_tried, .int m_undoMany, .int m_undoAt, .ref a_undos, .int m_seenMany, .ref a_seenHour, .ref a_seenAt, .ref a_parts, .ref a_partsThen, .int m_keptMany', .ref a_kept])), (a_now, .inl (cI, 26, .inl m_now)), (a_kept, .inl (cI, 52, .inl m_kept'))] rr := by
  refine CI.of (cc := cX8_keep) (nL := 2) (ret := (some .int)) (by decide) rfl (Nat.le_of_ble_eq_true rfl) ?_
  intro p e s m args below meth c A hC hP hD hS ls hl
  obtain ⟨hx, hb, hml, hown, hts, hr, hlk, hG, hA⟩ := id hC
  have hown : s.vm.findClass RX8 = some m.cls := hown
  have hK := hG.1
  have hl : lv_has ls 2 [(0, .ref ax)] := hl
  have k_f102 := hts (.fieldLink RX8 102 "ParasolHoursModel" "keptMany" "I") (List.mem_of_getElem? (i := 1) rfl)
  have k_f46 := hts (.fieldLink RX8 46 "ParasolHoursModel" "kept" "[I") (List.mem_of_getElem? (i := 2) rfl)
  have k_f25 := hts (.fieldLink RX8 25 "ParasolHoursModel" "now" "[I") (List.mem_of_getElem? (i := 3) rfl)
  have iX8 : ∀ w ∈ wsX80, w ∈ wsX8_keep := by decide +kernel
  obtain ⟨Q, hQ⟩ : ∃ Q, Q = MQ below (QI D [(ax, .inr (8, [.int m_letterMany, .ref a_text, .int m_readAt, .ref a_told, .ref a_readLaw, .ref a_readNow, .ref a_law, .ref a_now, .ref a_tried, .int m_undoMany, .int m_undoAt, .ref a_undos, .int m_seenMany, .ref a_seenHour, .ref a_seenAt, .ref a_parts, .ref a_partsThen, .int m_keptMany', .ref a_kept])), (a_now, .inl (cI, 26, .inl m_now)), (a_kept, .inl (cI, 52, .inl m_kept'))] rr A) args s 0 0 A := ⟨_, rfl⟩
  rw [← hQ]
  unfold f_X8_keep at hF
  refine lv_aload_n hx hb dX8_keep_0 rfl (lv_at hl 0 rfl) ?_
  refine va_get (D := D) (ci := 8) (v := .int m_keptMany) (C := RX8) (T := TX8) (N := 19) hx hb hts iX8 hown hK hP 0 rfl rfl 17 (by decide) k_f102 (fun _ h9 => h9) rfl dX8_keep_1 ?_
  refine lv_iconst (v := (2 : Int32)) hx hb dX8_keep_4 (by decide) ?_
  refine lv_icmp_ne (tgt := 11) hx hb dX8_keep_5 (by decide) (fun c1 => ?_) (fun c1 => ?_)
  · have hF := op_neg c1 hF
    refine lv_iconst (v := (0 : Int32)) hx hb dX8_keep_11 (by decide) ?_
    refine lv_istore_n (lv' := [(1, .int (0 : Int32)), (0, .ref ax)]) hx hb dX8_keep_12 rfl hl (by decide) rfl (fun ls hl => ?_)
    have hL13 : ∀ (k13 : Int32 → (Nat → Int32) → Option (Int32 × Int32 × (Nat → Int32))), (∀ (v2 : Int32) (m_kept_3 : (Nat → Int32)) (H : Heap) (locs : List Loc), va_P D vwCl [(ax, .inr (8, [.int m_letterMany, .ref a_text, .int m_readAt, .ref a_told, .ref a_readLaw, .ref a_readNow, .ref a_law, .ref a_now, .ref a_tried, .int m_undoMany, .int m_undoAt, .ref a_undos, .int m_seenMany, .ref a_seenHour, .ref a_seenAt, .ref a_parts, .ref a_partsThen, .int m_keptMany, .ref a_kept])), (a_now, .inl (cI, 26, .inl m_now)), (a_kept, .inl (cI, 52, .inl m_kept_3))] H → va_D A [(ax, .inr (8, [.int m_letterMany, .ref a_text, .int m_readAt, .ref a_told, .ref a_readLaw, .ref a_readNow, .ref a_law, .ref a_now, .ref a_tried, .int m_undoMany, .int m_undoAt, .ref a_undos, .int m_seenMany, .ref a_seenHour, .ref a_seenAt, .ref a_parts, .ref a_partsThen, .int m_keptMany, .ref a_kept])), (a_now, .inl (cI, 26, .inl m_now)), (a_kept, .inl (cI, 52, .inl m_kept_3))] → va_S A s.heap H locs → ∀ ls : Array Slot, lv_has ls 2 [(0, .ref ax)] → k13 v2 m_kept_3 = some (rr, m_keptMany', m_kept') → W p l e rm_X8_keep s m args below meth c H locs 0 0 Q (F0 m 45 ls [])) → ∀ (nf13 : Nat) (v2 : Int32) (m_kept_3 : (Nat → Int32)) (H : Heap) (locs : List Loc), va_P D vwCl [(ax, .inr (8, [.int m_letterMany, .ref a_text, .int m_readAt, .ref a_told, .ref a_readLaw, .ref a_readNow, .ref a_law, .ref a_now, .ref a_tried, .int m_undoMany, .int m_undoAt, .ref a_undos, .int m_seenMany, .ref a_seenHour, .ref a_seenAt, .ref a_parts, .ref a_partsThen, .int m_keptMany, .ref a_kept])), (a_now, .inl (cI, 26, .inl m_now)), (a_kept, .inl (cI, 52, .inl m_kept_3))] H → va_D A [(ax, .inr (8, [.int m_letterMany, .ref a_text, .int m_readAt, .ref a_told, .ref a_readLaw, .ref a_readNow, .ref a_law, .ref a_now, .ref a_tried, .int m_undoMany, .int m_undoAt, .ref a_undos, .int m_seenMany, .ref a_seenHour, .ref a_seenAt, .ref a_parts, .ref a_partsThen, .int m_keptMany, .ref a_kept])), (a_now, .inl (cI, 26, .inl m_now)), (a_kept, .inl (cI, 52, .inl m_kept_3))] → va_S A s.heap H locs → ∀ ls : Array Slot, lv_has ls 2 [(1, .int v2), (0, .ref ax)] → f_X8_keep_L13 m_keptMany m_now k13 nf13 v2 m_kept_3 = some (rr, m_keptMany', m_kept') → W p l e rm_X8_keep s m args below meth c H locs 0 0 Q (F0 m 13 ls []) := by
      intro k13 hk13 nf13
      induction nf13 with
      | zero =>
        intro v2 m_kept_3 H locs hP hD hS ls hl hF
        rw [f_X8_keep_L13_0] at hF
        cases hF
      | succ nf13 ih13 =>
        intro v2 m_kept_3 H locs hP hD hS ls hl hF
        rw [f_X8_keep_L13_s] at hF
        refine lv_iload_n hx hb dX8_keep_13 rfl (lv_at hl 0 rfl) ?_
        refine lv_bipush (v := (26 : Int32)) hx hb dX8_keep_14 (by decide) ?_
        refine lv_icmp_ge (tgt := 45) hx hb dX8_keep_16 (by decide) (fun c4 => ?_) (fun c4 => ?_)
        · have hF := op_pos c4 hF
          exact hk13 v2 m_kept_3 _ _ hP hD hS _ (lv_sub hl [1] rfl) hF
        · have hF := op_neg c4 hF
          refine lv_aload_n hx hb dX8_keep_19 rfl (lv_at hl 1 rfl) ?_
          refine va_get (D := D) (ci := 8) (v := .ref a_kept) (C := RX8) (T := TX8) (N := 19) hx hb hts iX8 hown hK hP 0 rfl rfl 18 (by decide) k_f46 (fun _ h9 => h9) rfl dX8_keep_20 ?_
          refine lv_bipush (v := (26 : Int32)) hx hb dX8_keep_23 (by decide) ?_
          refine lv_aload_n hx hb dX8_keep_25 rfl (lv_at hl 1 rfl) ?_
          refine va_get (D := D) (ci := 8) (v := .int m_keptMany) (C := RX8) (T := TX8) (N := 19) hx hb hts iX8 hown hK hP 0 rfl rfl 17 (by decide) k_f102 (fun _ h9 => h9) rfl dX8_keep_26 ?_
          refine lv_imul hx hb dX8_keep_29 ?_
          refine lv_iload_n hx hb dX8_keep_30 rfl (lv_at hl 0 rfl) ?_
          refine lv_iadd hx hb dX8_keep_31 ?_
          refine lv_aload_n hx hb dX8_keep_32 rfl (lv_at hl 1 rfl) ?_
          refine va_get (D := D) (ci := 8) (v := .ref a_now) (C := RX8) (T := TX8) (N := 19) hx hb hts iX8 hown hK hP 0 rfl rfl 7 (by decide) k_f25 (fun _ h9 => h9) rfl dX8_keep_33 ?_
          refine lv_iload_n hx hb dX8_keep_36 rfl (lv_at hl 0 rfl) ?_
          obtain ⟨o5, hF⟩ := op_ob hF
          refine va_iald hx hb hK hP 1 0 rfl rfl (okb_in o5) dX8_keep_37 ?_
          obtain ⟨o6, hF⟩ := op_ob hF
          refine va_iast hx hb hK hP hD hS 2 0 rfl rfl (okb_in o6) dX8_keep_38 (fun H locs hP hD hS => ?_)
          have hP : va_P D vwCl [(ax, .inr (8, [.int m_letterMany, .ref a_text, .int m_readAt, .ref a_told, .ref a_readLaw, .ref a_readNow, .ref a_law, .ref a_now, .ref a_tried, .int m_undoMany, .int m_undoAt, .ref a_undos, .int m_seenMany, .ref a_seenHour, .ref a_seenAt, .ref a_parts, .ref a_partsThen, .int m_keptMany, .ref a_kept])), (a_now, .inl (cI, 26, .inl m_now)), (a_kept, .inl (cI, 52, .inl (upd m_kept_3 (((26 : Int32) * m_keptMany) + v2).toNatClampNeg (m_now v2.toNatClampNeg))))] H := hP
          have hD : va_D A [(ax, .inr (8, [.int m_letterMany, .ref a_text, .int m_readAt, .ref a_told, .ref a_readLaw, .ref a_readNow, .ref a_law, .ref a_now, .ref a_tried, .int m_undoMany, .int m_undoAt, .ref a_undos, .int m_seenMany, .ref a_seenHour, .ref a_seenAt, .ref a_parts, .ref a_partsThen, .int m_keptMany, .ref a_kept])), (a_now, .inl (cI, 26, .inl m_now)), (a_kept, .inl (cI, 52, .inl (upd m_kept_3 (((26 : Int32) * m_keptMany) + v2).toNatClampNeg (m_now v2.toNatClampNeg))))] := hD
          refine lv_iinc (v := (v2 + (1 : Int32))) (lv' := [(1, .int (v2 + (1 : Int32))), (0, .ref ax)]) hx hb dX8_keep_39 hl (k := 0) rfl (by first | rfl | decide) (by decide) rfl (fun ls hl => ?_)
          refine lv_goto (tgt := 13) hx hb dX8_keep_42 (by decide) ?_
          exact ih13 (v2 + (1 : Int32)) (upd m_kept_3 (((26 : Int32) * m_keptMany) + v2).toNatClampNeg (m_now v2.toNatClampNeg)) _ _ hP hD hS _ (lv_sub hl [0, 1] rfl) hF
    refine hL13 _ (fun v2 m_kept_3 H locs hP hD hS ls hl hF => ?_) 20000 (0 : Int32) m_kept _ _ hP hD hS _ (lv_sub hl [0, 1] rfl) hF
    refine lv_aload_n hx hb dX8_keep_45 rfl (lv_at hl 0 rfl) ?_
    refine lv_dup hx hb dX8_keep_46 rfl ?_
    refine va_get (D := D) (ci := 8) (v := .int m_keptMany) (C := RX8) (T := TX8) (N := 19) hx hb hts iX8 hown hK hP 0 rfl rfl 17 (by decide) k_f102 (fun _ h9 => h9) rfl dX8_keep_47 ?_
    refine lv_iconst (v := (1 : Int32)) hx hb dX8_keep_50 (by decide) ?_
    refine lv_iadd hx hb dX8_keep_51 ?_
    refine va_put (D := D) (ci := 8) (v := .int (m_keptMany + (1 : Int32))) (ty := .int) (C := RX8) (T := TX8) (N := 19) hx hb hts iX8 tyX8 tyX8_ok nmX8 hown hK hP hD hS 0 rfl rfl 17 (by decide) k_f102 (fun _ h9 => h9) rfl (by decide +kernel) rfl rfl (Nat.le_of_ble_eq_true rfl) dX8_keep_52 (fun H locs hP hD hS => ?_)
    have hP : va_P D vwCl [(ax, .inr (8, [.int m_letterMany, .ref a_text, .int m_readAt, .ref a_told, .ref a_readLaw, .ref a_readNow, .ref a_law, .ref a_now, .ref a_tried, .int m_undoMany, .int m_undoAt, .ref a_undos, .int m_seenMany, .ref a_seenHour, .ref a_seenAt, .ref a_parts, .ref a_partsThen, .int (m_keptMany + (1 : Int32)), .ref a_kept])), (a_now, .inl (cI, 26, .inl m_now)), (a_kept, .inl (cI, 52, .inl m_kept_3))] H := hP
    have hD : va_D A [(ax, .inr (8, [.int m_letterMany, .ref a_text, .int m_readAt, .ref a_told, .ref a_readLaw, .ref a_readNow, .ref a_law, .ref a_now, .ref a_tried, .int m_undoMany, .int m_undoAt, .ref a_undos, .int m_seenMany, .ref a_seenHour, .ref a_seenAt, .ref a_parts, .ref a_partsThen, .int (m_keptMany + (1 : Int32)), .ref a_kept])), (a_now, .inl (cI, 26, .inl m_now)), (a_kept, .inl (cI, 52, .inl m_kept_3))] := hD
    refine lv_aload_n hx hb dX8_keep_55 rfl (lv_at hl 0 rfl) ?_
    refine va_get (D := D) (ci := 8) (v := .int (m_keptMany + (1 : Int32))) (C := RX8) (T := TX8) (N := 19) hx hb hts iX8 hown hK hP 0 rfl rfl 17 (by decide) k_f102 (fun _ h9 => h9) rfl dX8_keep_56 ?_
    cases hF
    rw [hQ]
    exact xri hC hP hS dX8_keep_59
  · have hF := op_pos c1 hF
    refine lv_bipush (v := (-3 : Int32)) hx hb dX8_keep_8 (by decide) ?_
    cases hF
    rw [hQ]
    exact xri hC hP hS dX8_keep_10

def f_X8_back_L27 (m_keptMany : Int32) (m_kept : (Nat → Int32)) (k27 : Int32 → (Nat → Int32) → Option (Int32 × Int32 × Int32 × (Nat → Int32))) : Nat → Int32 → (Nat → Int32) → Option (Int32 × Int32 × Int32 × (Nat → Int32))
  | 0, _, _ => none
  | nf27 + 1, v2, m_now_3 => (if (26 : Int32) ≤ v2 then (k27 v2 m_now_3) else (if okb (((26 : Int32) * (m_keptMany - (1 : Int32))) + v2) 52 = true then (if okb v2 26 = true then (f_X8_back_L27 m_keptMany m_kept k27 nf27 (v2 + (1 : Int32)) (upd m_now_3 v2.toNatClampNeg (m_kept (((26 : Int32) * (m_keptMany - (1 : Int32))) + v2).toNatClampNeg))) else none) else none))
theorem f_X8_back_L27_0 (m_keptMany : Int32) (m_kept : (Nat → Int32)) (k27 : Int32 → (Nat → Int32) → Option (Int32 × Int32 × Int32 × (Nat → Int32))) (v2 : Int32) (m_now_3 : (Nat → Int32)) : f_X8_back_L27 m_keptMany m_kept k27 0 v2 m_now_3 = none := rfl
theorem f_X8_back_L27_s (m_keptMany : Int32) (m_kept : (Nat → Int32)) (k27 : Int32 → (Nat → Int32) → Option (Int32 × Int32 × Int32 × (Nat → Int32))) (nf27 : Nat) (v2 : Int32) (m_now_3 : (Nat → Int32)) : f_X8_back_L27 m_keptMany m_kept k27 (nf27 + 1) v2 m_now_3 = (if (26 : Int32) ≤ v2 then (k27 v2 m_now_3) else (if okb (((26 : Int32) * (m_keptMany - (1 : Int32))) + v2) 52 = true then (if okb v2 26 = true then (f_X8_back_L27 m_keptMany m_kept k27 nf27 (v2 + (1 : Int32)) (upd m_now_3 v2.toNatClampNeg (m_kept (((26 : Int32) * (m_keptMany - (1 : Int32))) + v2).toNatClampNeg))) else none) else none)) := rfl

def f_X8_back (m_undoMany : Int32) (m_keptMany : Int32) (m_now : (Nat → Int32)) (m_kept : (Nat → Int32)) : Option (Int32 × Int32 × Int32 × (Nat → Int32)) := (if m_keptMany = 0 then (some ((-2 : Int32), m_undoMany, m_keptMany, m_now)) else (f_X8_back_L27 m_keptMany m_kept (fun (v2 : Int32) (m_now_3 : (Nat → Int32)) => (some ((m_keptMany - (1 : Int32)), (0 : Int32), (m_keptMany - (1 : Int32)), m_now_3))) 20000 (0 : Int32) m_now))

def rm_X8_back : Room := { frames := 0, cells := 0, slots := 0, locals := 0 }

theorem pd_X8_back : yX8_back.cls ≠ "java/lang/invoke/MethodHandle" ∧ yX8_back.cls ≠ "java/lang/invoke/VarHandle" ∧ (parseMethodDescriptor yX8_back.desc).map (fun d => d.parameters.length) = some 0 := by decide +kernel

set_option maxHeartbeats 4000000 in
set_option maxRecDepth 100000 in
theorem c_X8_back (l : Launch) (D : va_G) (cI cC cM : ClassId) (ax a_now a_kept a_text a_told a_readLaw a_readNow a_law a_tried a_undos a_seenHour a_seenAt a_parts a_partsThen : Nat) (m_letterMany : Int32) (m_readAt : Int32) (m_undoMany : Int32) (m_undoAt : Int32) (m_seenMany : Int32) (m_keptMany : Int32) (m_now : (Nat → Int32)) (m_kept : (Nat → Int32)) (rr : Int32) (m_undoMany' : Int32) (m_keptMany' : Int32) (m_now' : (Nat → Int32)) (hF : f_X8_back m_undoMany m_keptMany m_now m_kept = some (rr, m_undoMany', m_keptMany', m_now')) : CI l D cI cC cM yX8_back wsX8_back rm_X8_back [.ref ax] [(ax, .inr (8, [.int m_letterMany, .ref a_text, .int m_readAt, .ref a_told, .ref a_readLaw, .ref a_readNow, .ref a_law, .ref a_now, .ref a_tried, .int m_undoMany, .int m_undoAt, .ref a_undos, .int m_seenMany, .ref a_seenHour, .ref a_seenAt, .ref a_parts, .ref a_partsThen, .int m_keptMany, .ref a_kept])), (a_now, .inl (cI, 26, .inl m_now)), (a_kept, .inl (cI, 52, .inl m_kept))] [(ax, .inr (8, [.int m_letterMany, .ref a_text, .int m_readAt, .ref a_told, .ref a_readLaw, .ref a_readNow, .ref a_law, .ref a_now, .ref a_tried, .int m_undoMany', .int m_undoAt, .ref a_undos, .int m_seenMany, .ref a_seenHour, .ref a_seenAt, .ref a_parts, .ref a_partsThen, .int m_keptMany', .ref a_kept])), (a_now, .inl (cI, 26, .inl m_now')), (a_kept, .inl (cI, 52, .inl m_kept))] rr := by
  refine CI.of (cc := cX8_back) (nL := 2) (ret := (some .int)) (by decide) rfl (Nat.le_of_ble_eq_true rfl) ?_
  intro p e s m args below meth c A hC hP hD hS ls hl
  obtain ⟨hx, hb, hml, hown, hts, hr, hlk, hG, hA⟩ := id hC
  have hown : s.vm.findClass RX8 = some m.cls := hown
  have hK := hG.1
  have hl : lv_has ls 2 [(0, .ref ax)] := hl
  have k_f102 := hts (.fieldLink RX8 102 "ParasolHoursModel" "keptMany" "I") (List.mem_of_getElem? (i := 1) rfl)
  have k_f99 := hts (.fieldLink RX8 99 "ParasolHoursModel" "undoMany" "I") (List.mem_of_getElem? (i := 2) rfl)
  have k_f25 := hts (.fieldLink RX8 25 "ParasolHoursModel" "now" "[I") (List.mem_of_getElem? (i := 3) rfl)
  have k_f46 := hts (.fieldLink RX8 46 "ParasolHoursModel" "kept" "[I") (List.mem_of_getElem? (i := 4) rfl)
  have iX8 : ∀ w ∈ wsX80, w ∈ wsX8_back := by decide +kernel
  obtain ⟨Q, hQ⟩ : ∃ Q, Q = MQ below (QI D [(ax, .inr (8, [.int m_letterMany, .ref a_text, .int m_readAt, .ref a_told, .ref a_readLaw, .ref a_readNow, .ref a_law, .ref a_now, .ref a_tried, .int m_undoMany', .int m_undoAt, .ref a_undos, .int m_seenMany, .ref a_seenHour, .ref a_seenAt, .ref a_parts, .ref a_partsThen, .int m_keptMany', .ref a_kept])), (a_now, .inl (cI, 26, .inl m_now')), (a_kept, .inl (cI, 52, .inl m_kept))] rr A) args s 0 0 A := ⟨_, rfl⟩
  rw [← hQ]
  unfold f_X8_back at hF
  refine lv_aload_n hx hb dX8_back_0 rfl (lv_at hl 0 rfl) ?_
  refine va_get (D := D) (ci := 8) (v := .int m_keptMany) (C := RX8) (T := TX8) (N := 19) hx hb hts iX8 hown hK hP 0 rfl rfl 17 (by decide) k_f102 (fun _ h9 => h9) rfl dX8_back_1 ?_
  refine lv_if_ne (tgt := 10) hx hb dX8_back_4 (by decide) (fun c1 => ?_) (fun c1 => ?_)
  · have hF := op_neg c1 hF
    refine lv_aload_n hx hb dX8_back_10 rfl (lv_at hl 0 rfl) ?_
    refine lv_dup hx hb dX8_back_11 rfl ?_
    refine va_get (D := D) (ci := 8) (v := .int m_keptMany) (C := RX8) (T := TX8) (N := 19) hx hb hts iX8 hown hK hP 0 rfl rfl 17 (by decide) k_f102 (fun _ h9 => h9) rfl dX8_back_12 ?_
    refine lv_iconst (v := (1 : Int32)) hx hb dX8_back_15 (by decide) ?_
    refine lv_isub hx hb dX8_back_16 ?_
    refine va_put (D := D) (ci := 8) (v := .int (m_keptMany - (1 : Int32))) (ty := .int) (C := RX8) (T := TX8) (N := 19) hx hb hts iX8 tyX8 tyX8_ok nmX8 hown hK hP hD hS 0 rfl rfl 17 (by decide) k_f102 (fun _ h9 => h9) rfl (by decide +kernel) rfl rfl (Nat.le_of_ble_eq_true rfl) dX8_back_17 (fun H locs hP hD hS => ?_)
    have hP : va_P D vwCl [(ax, .inr (8, [.int m_letterMany, .ref a_text, .int m_readAt, .ref a_told, .ref a_readLaw, .ref a_readNow, .ref a_law, .ref a_now, .ref a_tried, .int m_undoMany, .int m_undoAt, .ref a_undos, .int m_seenMany, .ref a_seenHour, .ref a_seenAt, .ref a_parts, .ref a_partsThen, .int (m_keptMany - (1 : Int32)), .ref a_kept])), (a_now, .inl (cI, 26, .inl m_now)), (a_kept, .inl (cI, 52, .inl m_kept))] H := hP
    have hD : va_D A [(ax, .inr (8, [.int m_letterMany, .ref a_text, .int m_readAt, .ref a_told, .ref a_readLaw, .ref a_readNow, .ref a_law, .ref a_now, .ref a_tried, .int m_undoMany, .int m_undoAt, .ref a_undos, .int m_seenMany, .ref a_seenHour, .ref a_seenAt, .ref a_parts, .ref a_partsThen, .int (m_keptMany - (1 : Int32)), .ref a_kept])), (a_now, .inl (cI, 26, .inl m_now)), (a_kept, .inl (cI, 52, .inl m_kept))] := hD
    refine lv_aload_n hx hb dX8_back_20 rfl (lv_at hl 0 rfl) ?_
    refine lv_iconst (v := (0 : Int32)) hx hb dX8_back_21 (by decide) ?_
    refine va_put (D := D) (ci := 8) (v := .int (0 : Int32)) (ty := .int) (C := RX8) (T := TX8) (N := 19) hx hb hts iX8 tyX8 tyX8_ok nmX8 hown hK hP hD hS 0 rfl rfl 9 (by decide) k_f99 (fun _ h9 => h9) rfl (by decide +kernel) rfl rfl (Nat.le_of_ble_eq_true rfl) dX8_back_22 (fun H locs hP hD hS => ?_)
    have hP : va_P D vwCl [(ax, .inr (8, [.int m_letterMany, .ref a_text, .int m_readAt, .ref a_told, .ref a_readLaw, .ref a_readNow, .ref a_law, .ref a_now, .ref a_tried, .int (0 : Int32), .int m_undoAt, .ref a_undos, .int m_seenMany, .ref a_seenHour, .ref a_seenAt, .ref a_parts, .ref a_partsThen, .int (m_keptMany - (1 : Int32)), .ref a_kept])), (a_now, .inl (cI, 26, .inl m_now)), (a_kept, .inl (cI, 52, .inl m_kept))] H := hP
    have hD : va_D A [(ax, .inr (8, [.int m_letterMany, .ref a_text, .int m_readAt, .ref a_told, .ref a_readLaw, .ref a_readNow, .ref a_law, .ref a_now, .ref a_tried, .int (0 : Int32), .int m_undoAt, .ref a_undos, .int m_seenMany, .ref a_seenHour, .ref a_seenAt, .ref a_parts, .ref a_partsThen, .int (m_keptMany - (1 : Int32)), .ref a_kept])), (a_now, .inl (cI, 26, .inl m_now)), (a_kept, .inl (cI, 52, .inl m_kept))] := hD
    refine lv_iconst (v := (0 : Int32)) hx hb dX8_back_25 (by decide) ?_
    refine lv_istore_n (lv' := [(1, .int (0 : Int32)), (0, .ref ax)]) hx hb dX8_back_26 rfl hl (by decide) rfl (fun ls hl => ?_)
    have hL27 : ∀ (k27 : Int32 → (Nat → Int32) → Option (Int32 × Int32 × Int32 × (Nat → Int32))), (∀ (v2 : Int32) (m_now_3 : (Nat → Int32)) (H : Heap) (locs : List Loc), va_P D vwCl [(ax, .inr (8, [.int m_letterMany, .ref a_text, .int m_readAt, .ref a_told, .ref a_readLaw, .ref a_readNow, .ref a_law, .ref a_now, .ref a_tried, .int (0 : Int32), .int m_undoAt, .ref a_undos, .int m_seenMany, .ref a_seenHour, .ref a_seenAt, .ref a_parts, .ref a_partsThen, .int (m_keptMany - (1 : Int32)), .ref a_kept])), (a_now, .inl (cI, 26, .inl m_now_3)), (a_kept, .inl (cI, 52, .inl m_kept))] H → va_D A [(ax, .inr (8, [.int m_letterMany, .ref a_text, .int m_readAt, .ref a_told, .ref a_readLaw, .ref a_readNow, .ref a_law, .ref a_now, .ref a_tried, .int (0 : Int32), .int m_undoAt, .ref a_undos, .int m_seenMany, .ref a_seenHour, .ref a_seenAt, .ref a_parts, .ref a_partsThen, .int (m_keptMany - (1 : Int32)), .ref a_kept])), (a_now, .inl (cI, 26, .inl m_now_3)), (a_kept, .inl (cI, 52, .inl m_kept))] → va_S A s.heap H locs → ∀ ls : Array Slot, lv_has ls 2 [(0, .ref ax)] → k27 v2 m_now_3 = some (rr, m_undoMany', m_keptMany', m_now') → W p l e rm_X8_back s m args below meth c H locs 0 0 Q (F0 m 59 ls [])) → ∀ (nf27 : Nat) (v2 : Int32) (m_now_3 : (Nat → Int32)) (H : Heap) (locs : List Loc), va_P D vwCl [(ax, .inr (8, [.int m_letterMany, .ref a_text, .int m_readAt, .ref a_told, .ref a_readLaw, .ref a_readNow, .ref a_law, .ref a_now, .ref a_tried, .int (0 : Int32), .int m_undoAt, .ref a_undos, .int m_seenMany, .ref a_seenHour, .ref a_seenAt, .ref a_parts, .ref a_partsThen, .int (m_keptMany - (1 : Int32)), .ref a_kept])), (a_now, .inl (cI, 26, .inl m_now_3)), (a_kept, .inl (cI, 52, .inl m_kept))] H → va_D A [(ax, .inr (8, [.int m_letterMany, .ref a_text, .int m_readAt, .ref a_told, .ref a_readLaw, .ref a_readNow, .ref a_law, .ref a_now, .ref a_tried, .int (0 : Int32), .int m_undoAt, .ref a_undos, .int m_seenMany, .ref a_seenHour, .ref a_seenAt, .ref a_parts, .ref a_partsThen, .int (m_keptMany - (1 : Int32)), .ref a_kept])), (a_now, .inl (cI, 26, .inl m_now_3)), (a_kept, .inl (cI, 52, .inl m_kept))] → va_S A s.heap H locs → ∀ ls : Array Slot, lv_has ls 2 [(1, .int v2), (0, .ref ax)] → f_X8_back_L27 m_keptMany m_kept k27 nf27 v2 m_now_3 = some (rr, m_undoMany', m_keptMany', m_now') → W p l e rm_X8_back s m args below meth c H locs 0 0 Q (F0 m 27 ls []) := by
      intro k27 hk27 nf27
      induction nf27 with
      | zero =>
        intro v2 m_now_3 H locs hP hD hS ls hl hF
        rw [f_X8_back_L27_0] at hF
        cases hF
      | succ nf27 ih27 =>
        intro v2 m_now_3 H locs hP hD hS ls hl hF
        rw [f_X8_back_L27_s] at hF
        refine lv_iload_n hx hb dX8_back_27 rfl (lv_at hl 0 rfl) ?_
        refine lv_bipush (v := (26 : Int32)) hx hb dX8_back_28 (by decide) ?_
        refine lv_icmp_ge (tgt := 59) hx hb dX8_back_30 (by decide) (fun c4 => ?_) (fun c4 => ?_)
        · have hF := op_pos c4 hF
          exact hk27 v2 m_now_3 _ _ hP hD hS _ (lv_sub hl [1] rfl) hF
        · have hF := op_neg c4 hF
          refine lv_aload_n hx hb dX8_back_33 rfl (lv_at hl 1 rfl) ?_
          refine va_get (D := D) (ci := 8) (v := .ref a_now) (C := RX8) (T := TX8) (N := 19) hx hb hts iX8 hown hK hP 0 rfl rfl 7 (by decide) k_f25 (fun _ h9 => h9) rfl dX8_back_34 ?_
          refine lv_iload_n hx hb dX8_back_37 rfl (lv_at hl 0 rfl) ?_
          refine lv_aload_n hx hb dX8_back_38 rfl (lv_at hl 1 rfl) ?_
          refine va_get (D := D) (ci := 8) (v := .ref a_kept) (C := RX8) (T := TX8) (N := 19) hx hb hts iX8 hown hK hP 0 rfl rfl 18 (by decide) k_f46 (fun _ h9 => h9) rfl dX8_back_39 ?_
          refine lv_bipush (v := (26 : Int32)) hx hb dX8_back_42 (by decide) ?_
          refine lv_aload_n hx hb dX8_back_44 rfl (lv_at hl 1 rfl) ?_
          refine va_get (D := D) (ci := 8) (v := .int (m_keptMany - (1 : Int32))) (C := RX8) (T := TX8) (N := 19) hx hb hts iX8 hown hK hP 0 rfl rfl 17 (by decide) k_f102 (fun _ h9 => h9) rfl dX8_back_45 ?_
          refine lv_imul hx hb dX8_back_48 ?_
          refine lv_iload_n hx hb dX8_back_49 rfl (lv_at hl 0 rfl) ?_
          refine lv_iadd hx hb dX8_back_50 ?_
          obtain ⟨o5, hF⟩ := op_ob hF
          refine va_iald hx hb hK hP 2 0 rfl rfl (okb_in o5) dX8_back_51 ?_
          obtain ⟨o6, hF⟩ := op_ob hF
          refine va_iast hx hb hK hP hD hS 1 0 rfl rfl (okb_in o6) dX8_back_52 (fun H locs hP hD hS => ?_)
          have hP : va_P D vwCl [(ax, .inr (8, [.int m_letterMany, .ref a_text, .int m_readAt, .ref a_told, .ref a_readLaw, .ref a_readNow, .ref a_law, .ref a_now, .ref a_tried, .int (0 : Int32), .int m_undoAt, .ref a_undos, .int m_seenMany, .ref a_seenHour, .ref a_seenAt, .ref a_parts, .ref a_partsThen, .int (m_keptMany - (1 : Int32)), .ref a_kept])), (a_now, .inl (cI, 26, .inl (upd m_now_3 v2.toNatClampNeg (m_kept (((26 : Int32) * (m_keptMany - (1 : Int32))) + v2).toNatClampNeg)))), (a_kept, .inl (cI, 52, .inl m_kept))] H := hP
          have hD : va_D A [(ax, .inr (8, [.int m_letterMany, .ref a_text, .int m_readAt, .ref a_told, .ref a_readLaw, .ref a_readNow, .ref a_law, .ref a_now, .ref a_tried, .int (0 : Int32), .int m_undoAt, .ref a_undos, .int m_seenMany, .ref a_seenHour, .ref a_seenAt, .ref a_parts, .ref a_partsThen, .int (m_keptMany - (1 : Int32)), .ref a_kept])), (a_now, .inl (cI, 26, .inl (upd m_now_3 v2.toNatClampNeg (m_kept (((26 : Int32) * (m_keptMany - (1 : Int32))) + v2).toNatClampNeg)))), (a_kept, .inl (cI, 52, .inl m_kept))] := hD
          refine lv_iinc (v := (v2 + (1 : Int32))) (lv' := [(1, .int (v2 + (1 : Int32))), (0, .ref ax)]) hx hb dX8_back_53 hl (k := 0) rfl (by first | rfl | decide) (by decide) rfl (fun ls hl => ?_)
          refine lv_goto (tgt := 27) hx hb dX8_back_56 (by decide) ?_
          exact ih27 (v2 + (1 : Int32)) (upd m_now_3 v2.toNatClampNeg (m_kept (((26 : Int32) * (m_keptMany - (1 : Int32))) + v2).toNatClampNeg)) _ _ hP hD hS _ (lv_sub hl [0, 1] rfl) hF
    refine hL27 _ (fun v2 m_now_3 H locs hP hD hS ls hl hF => ?_) 20000 (0 : Int32) m_now _ _ hP hD hS _ (lv_sub hl [0, 1] rfl) hF
    refine lv_aload_n hx hb dX8_back_59 rfl (lv_at hl 0 rfl) ?_
    refine va_get (D := D) (ci := 8) (v := .int (m_keptMany - (1 : Int32))) (C := RX8) (T := TX8) (N := 19) hx hb hts iX8 hown hK hP 0 rfl rfl 17 (by decide) k_f102 (fun _ h9 => h9) rfl dX8_back_60 ?_
    cases hF
    rw [hQ]
    exact xri hC hP hS dX8_back_63
  · have hF := op_pos c1 hF
    refine lv_bipush (v := (-2 : Int32)) hx hb dX8_back_7 (by decide) ?_
    cases hF
    rw [hQ]
    exact xri hC hP hS dX8_back_9

def f_X8_inStand_L4 (m_law : (Nat → Int32)) (m_now : (Nat → Int32)) (k4 : Int32 → Int32 → Option Int32) : Nat → Int32 → Int32 → Option Int32
  | 0, _, _ => none
  | nf4 + 1, v1, v2 => (if (m_law (1 : Int32).toNatClampNeg) ≤ v2 then (k4 v1 v2) else (Option.bind (f_X8_under m_law m_now v2) fun r4 => (if r4 = 0 then (f_X8_inStand_L4 m_law m_now k4 nf4 (v1 + (1 : Int32)) (v2 + (1 : Int32))) else (f_X8_inStand_L4 m_law m_now k4 nf4 (v1 + (0 : Int32)) (v2 + (1 : Int32))))))
theorem f_X8_inStand_L4_0 (m_law : (Nat → Int32)) (m_now : (Nat → Int32)) (k4 : Int32 → Int32 → Option Int32) (v1 : Int32) (v2 : Int32) : f_X8_inStand_L4 m_law m_now k4 0 v1 v2 = none := rfl
theorem f_X8_inStand_L4_s (m_law : (Nat → Int32)) (m_now : (Nat → Int32)) (k4 : Int32 → Int32 → Option Int32) (nf4 : Nat) (v1 : Int32) (v2 : Int32) : f_X8_inStand_L4 m_law m_now k4 (nf4 + 1) v1 v2 = (if (m_law (1 : Int32).toNatClampNeg) ≤ v2 then (k4 v1 v2) else (Option.bind (f_X8_under m_law m_now v2) fun r4 => (if r4 = 0 then (f_X8_inStand_L4 m_law m_now k4 nf4 (v1 + (1 : Int32)) (v2 + (1 : Int32))) else (f_X8_inStand_L4 m_law m_now k4 nf4 (v1 + (0 : Int32)) (v2 + (1 : Int32)))))) := rfl

def f_X8_inStand (m_law : (Nat → Int32)) (m_now : (Nat → Int32)) : Option Int32 := (f_X8_inStand_L4 m_law m_now (fun (v1 : Int32) (v2 : Int32) => (some v1)) 20000 (0 : Int32) (0 : Int32))

def rm_X8_inStand : Room := { frames := 1, cells := 0, slots := 0, locals := 24 }

theorem pd_X8_inStand : yX8_inStand.cls ≠ "java/lang/invoke/MethodHandle" ∧ yX8_inStand.cls ≠ "java/lang/invoke/VarHandle" ∧ (parseMethodDescriptor yX8_inStand.desc).map (fun d => d.parameters.length) = some 0 := by decide +kernel

set_option maxHeartbeats 4000000 in
set_option maxRecDepth 100000 in
theorem c_X8_inStand (l : Launch) (D : va_G) (cI cC cM : ClassId) (ax a_law a_now a_text a_told a_readLaw a_readNow a_tried a_undos a_seenHour a_seenAt a_parts a_partsThen a_kept : Nat) (m_letterMany : Int32) (m_readAt : Int32) (m_undoMany : Int32) (m_undoAt : Int32) (m_seenMany : Int32) (m_keptMany : Int32) (m_law : (Nat → Int32)) (m_now : (Nat → Int32)) (rr : Int32) (hF : f_X8_inStand m_law m_now = some rr) : CI l D cI cC cM yX8_inStand wsX8_inStand rm_X8_inStand [.ref ax] [(ax, .inr (8, [.int m_letterMany, .ref a_text, .int m_readAt, .ref a_told, .ref a_readLaw, .ref a_readNow, .ref a_law, .ref a_now, .ref a_tried, .int m_undoMany, .int m_undoAt, .ref a_undos, .int m_seenMany, .ref a_seenHour, .ref a_seenAt, .ref a_parts, .ref a_partsThen, .int m_keptMany, .ref a_kept])), (a_law, .inl (cI, 22, .inl m_law)), (a_now, .inl (cI, 26, .inl m_now))] [(ax, .inr (8, [.int m_letterMany, .ref a_text, .int m_readAt, .ref a_told, .ref a_readLaw, .ref a_readNow, .ref a_law, .ref a_now, .ref a_tried, .int m_undoMany, .int m_undoAt, .ref a_undos, .int m_seenMany, .ref a_seenHour, .ref a_seenAt, .ref a_parts, .ref a_partsThen, .int m_keptMany, .ref a_kept])), (a_law, .inl (cI, 22, .inl m_law)), (a_now, .inl (cI, 26, .inl m_now))] rr := by
  refine CI.of (cc := cX8_inStand) (nL := 3) (ret := (some .int)) (by decide) rfl (Nat.le_of_ble_eq_true rfl) ?_
  intro p e s m args below meth c A hC hP hD hS ls hl
  obtain ⟨hx, hb, hml, hown, hts, hr, hlk, hG, hA⟩ := id hC
  have hown : s.vm.findClass RX8 = some m.cls := hown
  have hK := hG.1
  have hl : lv_has ls 3 [(0, .ref ax)] := hl
  have k_f22 := hts (.fieldLink RX8 22 "ParasolHoursModel" "law" "[I") (List.mem_of_getElem? (i := 1) rfl)
  have k_f25 := hts (.fieldLink RX8 25 "ParasolHoursModel" "now" "[I") (List.mem_of_getElem? (i := 2) rfl)
  have iX8 : ∀ w ∈ wsX80, w ∈ wsX8_inStand := by decide +kernel
  obtain ⟨Q, hQ⟩ : ∃ Q, Q = MQ below (QI D [(ax, .inr (8, [.int m_letterMany, .ref a_text, .int m_readAt, .ref a_told, .ref a_readLaw, .ref a_readNow, .ref a_law, .ref a_now, .ref a_tried, .int m_undoMany, .int m_undoAt, .ref a_undos, .int m_seenMany, .ref a_seenHour, .ref a_seenAt, .ref a_parts, .ref a_partsThen, .int m_keptMany, .ref a_kept])), (a_law, .inl (cI, 22, .inl m_law)), (a_now, .inl (cI, 26, .inl m_now))] rr A) args s 0 0 A := ⟨_, rfl⟩
  rw [← hQ]
  unfold f_X8_inStand at hF
  refine lv_iconst (v := (0 : Int32)) hx hb dX8_inStand_0 (by decide) ?_
  refine lv_istore_n (lv' := [(1, .int (0 : Int32)), (0, .ref ax)]) hx hb dX8_inStand_1 rfl hl (by decide) rfl (fun ls hl => ?_)
  refine lv_iconst (v := (0 : Int32)) hx hb dX8_inStand_2 (by decide) ?_
  refine lv_istore_n (lv' := [(2, .int (0 : Int32)), (1, .int (0 : Int32)), (0, .ref ax)]) hx hb dX8_inStand_3 rfl hl (by decide) rfl (fun ls hl => ?_)
  have hL4 : ∀ (k4 : Int32 → Int32 → Option Int32), (∀ (v1 : Int32) (v2 : Int32) (H : Heap) (locs : List Loc), va_P D vwCl [(ax, .inr (8, [.int m_letterMany, .ref a_text, .int m_readAt, .ref a_told, .ref a_readLaw, .ref a_readNow, .ref a_law, .ref a_now, .ref a_tried, .int m_undoMany, .int m_undoAt, .ref a_undos, .int m_seenMany, .ref a_seenHour, .ref a_seenAt, .ref a_parts, .ref a_partsThen, .int m_keptMany, .ref a_kept])), (a_law, .inl (cI, 22, .inl m_law)), (a_now, .inl (cI, 26, .inl m_now))] H → va_D A [(ax, .inr (8, [.int m_letterMany, .ref a_text, .int m_readAt, .ref a_told, .ref a_readLaw, .ref a_readNow, .ref a_law, .ref a_now, .ref a_tried, .int m_undoMany, .int m_undoAt, .ref a_undos, .int m_seenMany, .ref a_seenHour, .ref a_seenAt, .ref a_parts, .ref a_partsThen, .int m_keptMany, .ref a_kept])), (a_law, .inl (cI, 22, .inl m_law)), (a_now, .inl (cI, 26, .inl m_now))] → va_S A s.heap H locs → ∀ ls : Array Slot, lv_has ls 3 [(1, .int v1)] → k4 v1 v2 = some rr → W p l e rm_X8_inStand s m args below meth c H locs 0 0 Q (F0 m 40 ls [])) → ∀ (nf4 : Nat) (v1 : Int32) (v2 : Int32) (H : Heap) (locs : List Loc), va_P D vwCl [(ax, .inr (8, [.int m_letterMany, .ref a_text, .int m_readAt, .ref a_told, .ref a_readLaw, .ref a_readNow, .ref a_law, .ref a_now, .ref a_tried, .int m_undoMany, .int m_undoAt, .ref a_undos, .int m_seenMany, .ref a_seenHour, .ref a_seenAt, .ref a_parts, .ref a_partsThen, .int m_keptMany, .ref a_kept])), (a_law, .inl (cI, 22, .inl m_law)), (a_now, .inl (cI, 26, .inl m_now))] H → va_D A [(ax, .inr (8, [.int m_letterMany, .ref a_text, .int m_readAt, .ref a_told, .ref a_readLaw, .ref a_readNow, .ref a_law, .ref a_now, .ref a_tried, .int m_undoMany, .int m_undoAt, .ref a_undos, .int m_seenMany, .ref a_seenHour, .ref a_seenAt, .ref a_parts, .ref a_partsThen, .int m_keptMany, .ref a_kept])), (a_law, .inl (cI, 22, .inl m_law)), (a_now, .inl (cI, 26, .inl m_now))] → va_S A s.heap H locs → ∀ ls : Array Slot, lv_has ls 3 [(2, .int v2), (1, .int v1), (0, .ref ax)] → f_X8_inStand_L4 m_law m_now k4 nf4 v1 v2 = some rr → W p l e rm_X8_inStand s m args below meth c H locs 0 0 Q (F0 m 4 ls []) := by
    intro k4 hk4 nf4
    induction nf4 with
    | zero =>
      intro v1 v2 H locs hP hD hS ls hl hF
      rw [f_X8_inStand_L4_0] at hF
      cases hF
    | succ nf4 ih4 =>
      intro v1 v2 H locs hP hD hS ls hl hF
      rw [f_X8_inStand_L4_s] at hF
      refine lv_iload_n hx hb dX8_inStand_4 rfl (lv_at hl 0 rfl) ?_
      refine lv_aload_n hx hb dX8_inStand_5 rfl (lv_at hl 2 rfl) ?_
      refine va_get (D := D) (ci := 8) (v := .ref a_law) (C := RX8) (T := TX8) (N := 19) hx hb hts iX8 hown hK hP 0 rfl rfl 6 (by decide) k_f22 (fun _ h9 => h9) rfl dX8_inStand_6 ?_
      refine lv_iconst (v := (1 : Int32)) hx hb dX8_inStand_9 (by decide) ?_
      refine va_iald hx hb hK hP 1 0 rfl rfl (okb_in (by decide)) dX8_inStand_10 ?_
      refine lv_icmp_ge (tgt := 40) hx hb dX8_inStand_11 (by decide) (fun c3 => ?_) (fun c3 => ?_)
      · have hF := op_pos c3 hF
        exact hk4 v1 v2 _ _ hP hD hS _ (lv_sub hl [1] rfl) hF
      · have hF := op_neg c3 hF
        refine lv_iload_n hx hb dX8_inStand_14 rfl (lv_at hl 1 rfl) ?_
        refine lv_aload_n hx hb dX8_inStand_15 rfl (lv_at hl 2 rfl) ?_
        refine lv_aload_n hx hb dX8_inStand_16 rfl (lv_at hl 2 rfl) ?_
        refine va_get (D := D) (ci := 8) (v := .ref a_now) (C := RX8) (T := TX8) (N := 19) hx hb hts iX8 hown hK hP 0 rfl rfl 7 (by decide) k_f25 (fun _ h9 => h9) rfl dX8_inStand_17 ?_
        refine lv_iload_n hx hb dX8_inStand_20 rfl (lv_at hl 0 rfl) ?_
        obtain ⟨r4, hb5, hF⟩ := op_bind hF
        refine xVr (As := [.ref a_now, .int v2]) (rest := [.int v1]) hC hP hD hS [0, 1, 2] (c_X8_under l D cI cC cM ax a_law a_now a_text a_told a_readLaw a_readNow a_now a_tried a_undos a_seenHour a_seenAt a_parts a_partsThen a_kept m_letterMany m_readAt m_undoMany m_undoAt m_seenMany m_keptMany m_law m_now v2 r4 hb5) (cwV 2 hts gX8_inStand_X8_under rfl rfl rfl ⟨rfl, pd_X8_under⟩ ⟨Nat.le_of_ble_eq_true rfl, Nat.le_of_ble_eq_true rfl⟩) rfl rfl 0 8 rfl rfl rfl rfl hl.1 rfl (Nat.le_of_ble_eq_true rfl) dX8_inStand_21 ⟨Nat.zero_le _, Nat.zero_le _⟩ (fun H locs hP hS => ?_)
        refine lv_if_ne (tgt := 31) hx hb dX8_inStand_24 (by decide) (fun c6 => ?_) (fun c6 => ?_)
        · have hF := op_neg c6 hF
          refine lv_iconst (v := (0 : Int32)) hx hb dX8_inStand_31 (by decide) ?_
          refine lv_iadd hx hb dX8_inStand_32 ?_
          refine lv_istore_n (lv' := [(1, .int (v1 + (0 : Int32))), (2, .int v2), (0, .ref ax)]) hx hb dX8_inStand_33 rfl hl (by decide) rfl (fun ls hl => ?_)
          refine lv_iinc (v := (v2 + (1 : Int32))) (lv' := [(2, .int (v2 + (1 : Int32))), (1, .int (v1 + (0 : Int32))), (0, .ref ax)]) hx hb dX8_inStand_34 hl (k := 1) rfl (by first | rfl | decide) (by decide) rfl (fun ls hl => ?_)
          refine lv_goto (tgt := 4) hx hb dX8_inStand_37 (by decide) ?_
          exact ih4 (v1 + (0 : Int32)) (v2 + (1 : Int32)) _ _ hP hD hS _ (lv_sub hl [0, 1, 2] rfl) hF
        · have hF := op_pos c6 hF
          refine lv_iconst (v := (1 : Int32)) hx hb dX8_inStand_27 (by decide) ?_
          refine lv_goto (tgt := 32) hx hb dX8_inStand_28 (by decide) ?_
          refine lv_iadd hx hb dX8_inStand_32 ?_
          refine lv_istore_n (lv' := [(1, .int (v1 + (1 : Int32))), (2, .int v2), (0, .ref ax)]) hx hb dX8_inStand_33 rfl hl (by decide) rfl (fun ls hl => ?_)
          refine lv_iinc (v := (v2 + (1 : Int32))) (lv' := [(2, .int (v2 + (1 : Int32))), (1, .int (v1 + (1 : Int32))), (0, .ref ax)]) hx hb dX8_inStand_34 hl (k := 1) rfl (by first | rfl | decide) (by decide) rfl (fun ls hl => ?_)
          refine lv_goto (tgt := 4) hx hb dX8_inStand_37 (by decide) ?_
          exact ih4 (v1 + (1 : Int32)) (v2 + (1 : Int32)) _ _ hP hD hS _ (lv_sub hl [0, 1, 2] rfl) hF
  refine hL4 _ (fun v1 v2 H locs hP hD hS ls hl hF => ?_) 20000 (0 : Int32) (0 : Int32) _ _ hP hD hS _ (lv_sub hl [0, 1, 2] rfl) hF
  refine lv_iload_n hx hb dX8_inStand_40 rfl (lv_at hl 0 rfl) ?_
  cases hF
  rw [hQ]
  exact xri hC hP hS dX8_inStand_41

def f_X8_count (m_letterMany : Int32) (m_undoMany : Int32) (m_seenMany : Int32) (m_keptMany : Int32) (m_law : (Nat → Int32)) (m_now : (Nat → Int32)) (i : Int32) : Option Int32 := (if i = (0 : Int32) then (some (m_law (0 : Int32).toNatClampNeg)) else (if i = (1 : Int32) then (some (m_law (1 : Int32).toNatClampNeg)) else (if i = (2 : Int32) then (some (m_law (2 : Int32).toNatClampNeg)) else (if i = (3 : Int32) then (some (m_law (3 : Int32).toNatClampNeg)) else (if i = (4 : Int32) then (some (m_now (0 : Int32).toNatClampNeg)) else (if i = (5 : Int32) then (Option.bind (f_X8_bits (m_now (2 : Int32).toNatClampNeg)) fun r7 => (some r7)) else (if i = (6 : Int32) then (some (m_now (1 : Int32).toNatClampNeg)) else (if i = (7 : Int32) then (Option.bind (f_X8_bits (m_now (3 : Int32).toNatClampNeg)) fun r11 => (some r11)) else (if i = (8 : Int32) then (Option.bind (f_X8_inStand m_law m_now) fun r14 => (some r14)) else (if i = (9 : Int32) then (some m_seenMany) else (if i = (10 : Int32) then (some m_undoMany) else (if i = (11 : Int32) then (some m_keptMany) else (if i = (12 : Int32) then (some m_letterMany) else (some (-1 : Int32)))))))))))))))

def rm_X8_count : Room := { frames := 2, cells := 0, slots := 0, locals := 46 }

theorem pd_X8_count : yX8_count.cls ≠ "java/lang/invoke/MethodHandle" ∧ yX8_count.cls ≠ "java/lang/invoke/VarHandle" ∧ (parseMethodDescriptor yX8_count.desc).map (fun d => d.parameters.length) = some 1 := by decide +kernel

set_option maxHeartbeats 4000000 in
set_option maxRecDepth 100000 in
theorem c_X8_count (l : Launch) (D : va_G) (cI cC cM : ClassId) (ax a_law a_now a_text a_told a_readLaw a_readNow a_tried a_undos a_seenHour a_seenAt a_parts a_partsThen a_kept : Nat) (m_letterMany : Int32) (m_readAt : Int32) (m_undoMany : Int32) (m_undoAt : Int32) (m_seenMany : Int32) (m_keptMany : Int32) (m_law : (Nat → Int32)) (m_now : (Nat → Int32)) (i : Int32) (rr : Int32) (hF : f_X8_count m_letterMany m_undoMany m_seenMany m_keptMany m_law m_now i = some rr) : CI l D cI cC cM yX8_count wsX8_count rm_X8_count [.ref ax, .int i] [(ax, .inr (8, [.int m_letterMany, .ref a_text, .int m_readAt, .ref a_told, .ref a_readLaw, .ref a_readNow, .ref a_law, .ref a_now, .ref a_tried, .int m_undoMany, .int m_undoAt, .ref a_undos, .int m_seenMany, .ref a_seenHour, .ref a_seenAt, .ref a_parts, .ref a_partsThen, .int m_keptMany, .ref a_kept])), (a_law, .inl (cI, 22, .inl m_law)), (a_now, .inl (cI, 26, .inl m_now))] [(ax, .inr (8, [.int m_letterMany, .ref a_text, .int m_readAt, .ref a_told, .ref a_readLaw, .ref a_readNow, .ref a_law, .ref a_now, .ref a_tried, .int m_undoMany, .int m_undoAt, .ref a_undos, .int m_seenMany, .ref a_seenHour, .ref a_seenAt, .ref a_parts, .ref a_partsThen, .int m_keptMany, .ref a_kept])), (a_law, .inl (cI, 22, .inl m_law)), (a_now, .inl (cI, 26, .inl m_now))] rr := by
  refine CI.of (cc := cX8_count) (nL := 2) (ret := (some .int)) (by decide) rfl (Nat.le_of_ble_eq_true rfl) ?_
  intro p e s m args below meth c A hC hP hD hS ls hl
  obtain ⟨hx, hb, hml, hown, hts, hr, hlk, hG, hA⟩ := id hC
  have hown : s.vm.findClass RX8 = some m.cls := hown
  have hK := hG.1
  have hl : lv_has ls 2 [(0, .ref ax), (1, .int i)] := hl
  have k_f22 := hts (.fieldLink RX8 22 "ParasolHoursModel" "law" "[I") (List.mem_of_getElem? (i := 1) rfl)
  have k_f25 := hts (.fieldLink RX8 25 "ParasolHoursModel" "now" "[I") (List.mem_of_getElem? (i := 2) rfl)
  have k_f105 := hts (.fieldLink RX8 105 "ParasolHoursModel" "seenMany" "I") (List.mem_of_getElem? (i := 3) rfl)
  have k_f99 := hts (.fieldLink RX8 99 "ParasolHoursModel" "undoMany" "I") (List.mem_of_getElem? (i := 4) rfl)
  have k_f102 := hts (.fieldLink RX8 102 "ParasolHoursModel" "keptMany" "I") (List.mem_of_getElem? (i := 5) rfl)
  have k_f61 := hts (.fieldLink RX8 61 "ParasolHoursModel" "letterMany" "I") (List.mem_of_getElem? (i := 6) rfl)
  have iX8 : ∀ w ∈ wsX80, w ∈ wsX8_count := by decide +kernel
  obtain ⟨Q, hQ⟩ : ∃ Q, Q = MQ below (QI D [(ax, .inr (8, [.int m_letterMany, .ref a_text, .int m_readAt, .ref a_told, .ref a_readLaw, .ref a_readNow, .ref a_law, .ref a_now, .ref a_tried, .int m_undoMany, .int m_undoAt, .ref a_undos, .int m_seenMany, .ref a_seenHour, .ref a_seenAt, .ref a_parts, .ref a_partsThen, .int m_keptMany, .ref a_kept])), (a_law, .inl (cI, 22, .inl m_law)), (a_now, .inl (cI, 26, .inl m_now))] rr A) args s 0 0 A := ⟨_, rfl⟩
  rw [← hQ]
  unfold f_X8_count at hF
  refine lv_iload_n hx hb dX8_count_0 rfl (lv_at hl 1 rfl) ?_
  by_cases c1 : i = (0 : Int32)
  · have hF := op_pos c1 hF
    refine lv_tableIn (x := i) (off := 67) (tgt := 68) hx hb dX8_count_1 (by rw [c1]; decide) (by rw [c1]; decide) (by rw [c1]; rfl) (by decide) ?_
    refine lv_aload_n hx hb dX8_count_68 rfl (lv_at hl 0 rfl) ?_
    refine va_get (D := D) (ci := 8) (v := .ref a_law) (C := RX8) (T := TX8) (N := 19) hx hb hts iX8 hown hK hP 0 rfl rfl 6 (by decide) k_f22 (fun _ h9 => h9) rfl dX8_count_69 ?_
    refine lv_iconst (v := (0 : Int32)) hx hb dX8_count_72 (by decide) ?_
    refine va_iald hx hb hK hP 1 0 rfl rfl (okb_in (by decide)) dX8_count_73 ?_
    cases hF
    rw [hQ]
    exact xri hC hP hS dX8_count_74
  · have hF := op_neg c1 hF
    by_cases c2 : i = (1 : Int32)
    · have hF := op_pos c2 hF
      refine lv_tableIn (x := i) (off := 74) (tgt := 75) hx hb dX8_count_1 (by rw [c2]; decide) (by rw [c2]; decide) (by rw [c2]; rfl) (by decide) ?_
      refine lv_aload_n hx hb dX8_count_75 rfl (lv_at hl 0 rfl) ?_
      refine va_get (D := D) (ci := 8) (v := .ref a_law) (C := RX8) (T := TX8) (N := 19) hx hb hts iX8 hown hK hP 0 rfl rfl 6 (by decide) k_f22 (fun _ h9 => h9) rfl dX8_count_76 ?_
      refine lv_iconst (v := (1 : Int32)) hx hb dX8_count_79 (by decide) ?_
      refine va_iald hx hb hK hP 1 0 rfl rfl (okb_in (by decide)) dX8_count_80 ?_
      cases hF
      rw [hQ]
      exact xri hC hP hS dX8_count_81
    · have hF := op_neg c2 hF
      by_cases c3 : i = (2 : Int32)
      · have hF := op_pos c3 hF
        refine lv_tableIn (x := i) (off := 81) (tgt := 82) hx hb dX8_count_1 (by rw [c3]; decide) (by rw [c3]; decide) (by rw [c3]; rfl) (by decide) ?_
        refine lv_aload_n hx hb dX8_count_82 rfl (lv_at hl 0 rfl) ?_
        refine va_get (D := D) (ci := 8) (v := .ref a_law) (C := RX8) (T := TX8) (N := 19) hx hb hts iX8 hown hK hP 0 rfl rfl 6 (by decide) k_f22 (fun _ h9 => h9) rfl dX8_count_83 ?_
        refine lv_iconst (v := (2 : Int32)) hx hb dX8_count_86 (by decide) ?_
        refine va_iald hx hb hK hP 1 0 rfl rfl (okb_in (by decide)) dX8_count_87 ?_
        cases hF
        rw [hQ]
        exact xri hC hP hS dX8_count_88
      · have hF := op_neg c3 hF
        by_cases c4 : i = (3 : Int32)
        · have hF := op_pos c4 hF
          refine lv_tableIn (x := i) (off := 88) (tgt := 89) hx hb dX8_count_1 (by rw [c4]; decide) (by rw [c4]; decide) (by rw [c4]; rfl) (by decide) ?_
          refine lv_aload_n hx hb dX8_count_89 rfl (lv_at hl 0 rfl) ?_
          refine va_get (D := D) (ci := 8) (v := .ref a_law) (C := RX8) (T := TX8) (N := 19) hx hb hts iX8 hown hK hP 0 rfl rfl 6 (by decide) k_f22 (fun _ h9 => h9) rfl dX8_count_90 ?_
          refine lv_iconst (v := (3 : Int32)) hx hb dX8_count_93 (by decide) ?_
          refine va_iald hx hb hK hP 1 0 rfl rfl (okb_in (by decide)) dX8_count_94 ?_
          cases hF
          rw [hQ]
          exact xri hC hP hS dX8_count_95
        · have hF := op_neg c4 hF
          by_cases c5 : i = (4 : Int32)
          · have hF := op_pos c5 hF
            refine lv_tableIn (x := i) (off := 95) (tgt := 96) hx hb dX8_count_1 (by rw [c5]; decide) (by rw [c5]; decide) (by rw [c5]; rfl) (by decide) ?_
            refine lv_aload_n hx hb dX8_count_96 rfl (lv_at hl 0 rfl) ?_
            refine va_get (D := D) (ci := 8) (v := .ref a_now) (C := RX8) (T := TX8) (N := 19) hx hb hts iX8 hown hK hP 0 rfl rfl 7 (by decide) k_f25 (fun _ h9 => h9) rfl dX8_count_97 ?_
            refine lv_iconst (v := (0 : Int32)) hx hb dX8_count_100 (by decide) ?_
            refine va_iald hx hb hK hP 2 0 rfl rfl (okb_in (by decide)) dX8_count_101 ?_
            cases hF
            rw [hQ]
            exact xri hC hP hS dX8_count_102
          · have hF := op_neg c5 hF
            by_cases c6 : i = (5 : Int32)
            · have hF := op_pos c6 hF
              refine lv_tableIn (x := i) (off := 102) (tgt := 103) hx hb dX8_count_1 (by rw [c6]; decide) (by rw [c6]; decide) (by rw [c6]; rfl) (by decide) ?_
              refine lv_aload_n hx hb dX8_count_103 rfl (lv_at hl 0 rfl) ?_
              refine va_get (D := D) (ci := 8) (v := .ref a_now) (C := RX8) (T := TX8) (N := 19) hx hb hts iX8 hown hK hP 0 rfl rfl 7 (by decide) k_f25 (fun _ h9 => h9) rfl dX8_count_104 ?_
              refine lv_iconst (v := (2 : Int32)) hx hb dX8_count_107 (by decide) ?_
              refine va_iald hx hb hK hP 2 0 rfl rfl (okb_in (by decide)) dX8_count_108 ?_
              obtain ⟨r7, hb8, hF⟩ := op_bind hF
              refine xSr (As := [.int (m_now (2 : Int32).toNatClampNeg)]) (rest := []) hC hP hD hS [] (c_X8_bits l D cI cC cM (m_now (2 : Int32).toNatClampNeg) r7 hb8) (va_cwS 1 hts gX8_count_X8_bits rfl rfl rfl pd_X8_bits ⟨Nat.le_of_ble_eq_true rfl, Nat.le_of_ble_eq_true rfl⟩) rfl rfl rfl hl.1 rfl (Nat.le_of_ble_eq_true rfl) dX8_count_109 ⟨Nat.zero_le _, Nat.zero_le _⟩ (fun H locs hP hS => ?_)
              cases hF
              rw [hQ]
              exact xri hC hP hS dX8_count_112
            · have hF := op_neg c6 hF
              by_cases c9 : i = (6 : Int32)
              · have hF := op_pos c9 hF
                refine lv_tableIn (x := i) (off := 112) (tgt := 113) hx hb dX8_count_1 (by rw [c9]; decide) (by rw [c9]; decide) (by rw [c9]; rfl) (by decide) ?_
                refine lv_aload_n hx hb dX8_count_113 rfl (lv_at hl 0 rfl) ?_
                refine va_get (D := D) (ci := 8) (v := .ref a_now) (C := RX8) (T := TX8) (N := 19) hx hb hts iX8 hown hK hP 0 rfl rfl 7 (by decide) k_f25 (fun _ h9 => h9) rfl dX8_count_114 ?_
                refine lv_iconst (v := (1 : Int32)) hx hb dX8_count_117 (by decide) ?_
                refine va_iald hx hb hK hP 2 0 rfl rfl (okb_in (by decide)) dX8_count_118 ?_
                cases hF
                rw [hQ]
                exact xri hC hP hS dX8_count_119
              · have hF := op_neg c9 hF
                by_cases c10 : i = (7 : Int32)
                · have hF := op_pos c10 hF
                  refine lv_tableIn (x := i) (off := 119) (tgt := 120) hx hb dX8_count_1 (by rw [c10]; decide) (by rw [c10]; decide) (by rw [c10]; rfl) (by decide) ?_
                  refine lv_aload_n hx hb dX8_count_120 rfl (lv_at hl 0 rfl) ?_
                  refine va_get (D := D) (ci := 8) (v := .ref a_now) (C := RX8) (T := TX8) (N := 19) hx hb hts iX8 hown hK hP 0 rfl rfl 7 (by decide) k_f25 (fun _ h9 => h9) rfl dX8_count_121 ?_
                  refine lv_iconst (v := (3 : Int32)) hx hb dX8_count_124 (by decide) ?_
                  refine va_iald hx hb hK hP 2 0 rfl rfl (okb_in (by decide)) dX8_count_125 ?_
                  obtain ⟨r11, hb12, hF⟩ := op_bind hF
                  refine xSr (As := [.int (m_now (3 : Int32).toNatClampNeg)]) (rest := []) hC hP hD hS [] (c_X8_bits l D cI cC cM (m_now (3 : Int32).toNatClampNeg) r11 hb12) (va_cwS 1 hts gX8_count_X8_bits rfl rfl rfl pd_X8_bits ⟨Nat.le_of_ble_eq_true rfl, Nat.le_of_ble_eq_true rfl⟩) rfl rfl rfl hl.1 rfl (Nat.le_of_ble_eq_true rfl) dX8_count_126 ⟨Nat.zero_le _, Nat.zero_le _⟩ (fun H locs hP hS => ?_)
                  cases hF
                  rw [hQ]
                  exact xri hC hP hS dX8_count_129
                · have hF := op_neg c10 hF
                  by_cases c13 : i = (8 : Int32)
                  · have hF := op_pos c13 hF
                    refine lv_tableIn (x := i) (off := 129) (tgt := 130) hx hb dX8_count_1 (by rw [c13]; decide) (by rw [c13]; decide) (by rw [c13]; rfl) (by decide) ?_
                    refine lv_aload_n hx hb dX8_count_130 rfl (lv_at hl 0 rfl) ?_
                    obtain ⟨r14, hb15, hF⟩ := op_bind hF
                    refine xVr (As := []) (rest := []) hC hP hD hS [0, 1, 2] (c_X8_inStand l D cI cC cM ax a_law a_now a_text a_told a_readLaw a_readNow a_tried a_undos a_seenHour a_seenAt a_parts a_partsThen a_kept m_letterMany m_readAt m_undoMany m_undoAt m_seenMany m_keptMany m_law m_now r14 hb15) (cwV 0 hts gX8_count_X8_inStand rfl rfl rfl ⟨rfl, pd_X8_inStand⟩ ⟨Nat.le_of_ble_eq_true rfl, Nat.le_of_ble_eq_true rfl⟩) rfl rfl 0 8 rfl rfl rfl rfl hl.1 rfl (Nat.le_of_ble_eq_true rfl) dX8_count_131 ⟨Nat.zero_le _, Nat.zero_le _⟩ (fun H locs hP hS => ?_)
                    cases hF
                    rw [hQ]
                    exact xri hC hP hS dX8_count_134
                  · have hF := op_neg c13 hF
                    by_cases c16 : i = (9 : Int32)
                    · have hF := op_pos c16 hF
                      refine lv_tableIn (x := i) (off := 134) (tgt := 135) hx hb dX8_count_1 (by rw [c16]; decide) (by rw [c16]; decide) (by rw [c16]; rfl) (by decide) ?_
                      refine lv_aload_n hx hb dX8_count_135 rfl (lv_at hl 0 rfl) ?_
                      refine va_get (D := D) (ci := 8) (v := .int m_seenMany) (C := RX8) (T := TX8) (N := 19) hx hb hts iX8 hown hK hP 0 rfl rfl 12 (by decide) k_f105 (fun _ h9 => h9) rfl dX8_count_136 ?_
                      cases hF
                      rw [hQ]
                      exact xri hC hP hS dX8_count_139
                    · have hF := op_neg c16 hF
                      by_cases c17 : i = (10 : Int32)
                      · have hF := op_pos c17 hF
                        refine lv_tableIn (x := i) (off := 139) (tgt := 140) hx hb dX8_count_1 (by rw [c17]; decide) (by rw [c17]; decide) (by rw [c17]; rfl) (by decide) ?_
                        refine lv_aload_n hx hb dX8_count_140 rfl (lv_at hl 0 rfl) ?_
                        refine va_get (D := D) (ci := 8) (v := .int m_undoMany) (C := RX8) (T := TX8) (N := 19) hx hb hts iX8 hown hK hP 0 rfl rfl 9 (by decide) k_f99 (fun _ h9 => h9) rfl dX8_count_141 ?_
                        cases hF
                        rw [hQ]
                        exact xri hC hP hS dX8_count_144
                      · have hF := op_neg c17 hF
                        by_cases c18 : i = (11 : Int32)
                        · have hF := op_pos c18 hF
                          refine lv_tableIn (x := i) (off := 144) (tgt := 145) hx hb dX8_count_1 (by rw [c18]; decide) (by rw [c18]; decide) (by rw [c18]; rfl) (by decide) ?_
                          refine lv_aload_n hx hb dX8_count_145 rfl (lv_at hl 0 rfl) ?_
                          refine va_get (D := D) (ci := 8) (v := .int m_keptMany) (C := RX8) (T := TX8) (N := 19) hx hb hts iX8 hown hK hP 0 rfl rfl 17 (by decide) k_f102 (fun _ h9 => h9) rfl dX8_count_146 ?_
                          cases hF
                          rw [hQ]
                          exact xri hC hP hS dX8_count_149
                        · have hF := op_neg c18 hF
                          by_cases c19 : i = (12 : Int32)
                          · have hF := op_pos c19 hF
                            refine lv_tableIn (x := i) (off := 149) (tgt := 150) hx hb dX8_count_1 (by rw [c19]; decide) (by rw [c19]; decide) (by rw [c19]; rfl) (by decide) ?_
                            refine lv_aload_n hx hb dX8_count_150 rfl (lv_at hl 0 rfl) ?_
                            refine va_get (D := D) (ci := 8) (v := .int m_letterMany) (C := RX8) (T := TX8) (N := 19) hx hb hts iX8 hown hK hP 0 rfl rfl 0 (by decide) k_f61 (fun _ h9 => h9) rfl dX8_count_151 ?_
                            cases hF
                            rw [hQ]
                            exact xri hC hP hS dX8_count_154
                          · have hF := op_neg c19 hF
                            refine lv_tableOut (x := i) (tgt := 155) hx hb dX8_count_1 (by have n0 := lv_neT (a := 0) c1 rfl; have n1 := lv_neT (a := 1) c2 rfl; have n2 := lv_neT (a := 2) c3 rfl; have n3 := lv_neT (a := 3) c4 rfl; have n4 := lv_neT (a := 4) c5 rfl; have n5 := lv_neT (a := 5) c6 rfl; have n6 := lv_neT (a := 6) c9 rfl; have n7 := lv_neT (a := 7) c10 rfl; have n8 := lv_neT (a := 8) c13 rfl; have n9 := lv_neT (a := 9) c16 rfl; have n10 := lv_neT (a := 10) c17 rfl; have n11 := lv_neT (a := 11) c18 rfl; have n12 := lv_neT (a := 12) c19 rfl; omega) (by decide) ?_
                            refine lv_iconst (v := (-1 : Int32)) hx hb dX8_count_155 (by decide) ?_
                            cases hF
                            rw [hQ]
                            exact xri hC hP hS dX8_count_156
