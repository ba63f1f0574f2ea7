def f_X8_onward_L6 (n : Int32) (m_law : (Nat → Int32)) (u : Int32) (m_now : (Nat → Int32)) (k6 : Int32 → Int32 → Option Int32) : Nat → Int32 → Int32 → Option Int32
  | 0, _, _ => none
  | nf6 + 1, v1, v2 => (if n ≤ v2 then (k6 v1 v2) else (Option.bind (f_X8_goesOn m_law u ((m_now (0 : Int32).toNatClampNeg) + v2)) fun r4 => (f_X8_onward_L6 n m_law u m_now k6 nf6 (v1 + r4) (v2 + (1 : Int32)))))
theorem f_X8_onward_L6_0 (n : Int32) (m_law : (Nat → Int32)) (u : Int32) (m_now : (Nat → Int32)) (k6 : Int32 → Int32 → Option Int32) (v1 : Int32) (v2 : Int32) : f_X8_onward_L6 n m_law u m_now k6 0 v1 v2 = none := rfl
theorem f_X8_onward_L6_s (n : Int32) (m_law : (Nat → Int32)) (u : Int32) (m_now : (Nat → Int32)) (k6 : Int32 → Int32 → Option Int32) (nf6 : Nat) (v1 : Int32) (v2 : Int32) : f_X8_onward_L6 n m_law u m_now k6 (nf6 + 1) v1 v2 = (if n ≤ v2 then (k6 v1 v2) else (Option.bind (f_X8_goesOn m_law u ((m_now (0 : Int32).toNatClampNeg) + v2)) fun r4 => (f_X8_onward_L6 n m_law u m_now k6 nf6 (v1 + r4) (v2 + (1 : Int32))))) := rfl

def f_X8_onward (m_law : (Nat → Int32)) (m_now : (Nat → Int32)) (u : Int32) (h : Int32) (n : Int32) : Option Int32 := (f_X8_onward_L6 n m_law u m_now (fun (v1 : Int32) (v2 : Int32) => (some (jrem v1 (24 : Int32)))) 20000 h (0 : Int32))

def rm_X8_onward : Room := { frames := 1, cells := 0, slots := 0, locals := 23 }

theorem pd_X8_onward : yX8_onward.cls ≠ "java/lang/invoke/MethodHandle" ∧ yX8_onward.cls ≠ "java/lang/invoke/VarHandle" ∧ (parseMethodDescriptor yX8_onward.desc).map (fun d => d.parameters.length) = some 3 := by decide +kernel

set_option maxHeartbeats 4000000 in
set_option maxRecDepth 100000 in
theorem c_X8_onward (l : Launch) (D : va_G) (cI cC cM : ClassId) (ax a_law a_now a_text a_told a_readLaw a_readNow a_tried a_undos a_seenHour a_seenAt a_parts a_partsThen a_kept : Nat) (m_letterMany : Int32) (m_readAt : Int32) (m_undoMany : Int32) (m_undoAt : Int32) (m_seenMany : Int32) (m_keptMany : Int32) (m_law : (Nat → Int32)) (m_now : (Nat → Int32)) (u : Int32) (h : Int32) (n : Int32) (rr : Int32) (hF : f_X8_onward m_law m_now u h n = some rr) : CI l D cI cC cM yX8_onward wsX8_onward rm_X8_onward [.ref ax, .int u, .int h, .int n] [(ax, .inr (8, [.int m_letterMany, .ref a_text, .int m_readAt, .ref a_told, .ref a_readLaw, .ref a_readNow, .ref a_law, .ref a_now, .ref a_tried, .int m_undoMany, .int m_undoAt, .ref a_undos, .int m_seenMany, .ref a_seenHour, .ref a_seenAt, .ref a_parts, .ref a_partsThen, .int m_keptMany, .ref a_kept])), (a_law, .inl (cI, 22, .inl m_law)), (a_now, .inl (cI, 26, .inl m_now))] [(ax, .inr (8, [.int m_letterMany, .ref a_text, .int m_readAt, .ref a_told, .ref a_readLaw, .ref a_readNow, .ref a_law, .ref a_now, .ref a_tried, .int m_undoMany, .int m_undoAt, .ref a_undos, .int m_seenMany, .ref a_seenHour, .ref a_seenAt, .ref a_parts, .ref a_partsThen, .int m_keptMany, .ref a_kept])), (a_law, .inl (cI, 22, .inl m_law)), (a_now, .inl (cI, 26, .inl m_now))] rr := by
  refine CI.of (cc := cX8_onward) (nL := 6) (ret := (some .int)) (by decide) rfl (Nat.le_of_ble_eq_true rfl) ?_
  intro p e s m args below meth c A hC hP hD hS ls hl
  obtain ⟨hx, hb, hml, hown, hts, hr, hlk, hG, hA⟩ := id hC
  have hown : s.vm.findClass RX8 = some m.cls := hown
  have hK := hG.1
  have hl : lv_has ls 6 [(0, .ref ax), (1, .int u), (2, .int h), (3, .int n)] := hl
  have k_f25 := hts (.fieldLink RX8 25 "ParasolHoursModel" "now" "[I") (List.mem_of_getElem? (i := 1) rfl)
  have iX8 : ∀ w ∈ wsX80, w ∈ wsX8_onward := by decide +kernel
  obtain ⟨Q, hQ⟩ : ∃ Q, Q = MQ below (QI D [(ax, .inr (8, [.int m_letterMany, .ref a_text, .int m_readAt, .ref a_told, .ref a_readLaw, .ref a_readNow, .ref a_law, .ref a_now, .ref a_tried, .int m_undoMany, .int m_undoAt, .ref a_undos, .int m_seenMany, .ref a_seenHour, .ref a_seenAt, .ref a_parts, .ref a_partsThen, .int m_keptMany, .ref a_kept])), (a_law, .inl (cI, 22, .inl m_law)), (a_now, .inl (cI, 26, .inl m_now))] rr A) args s 0 0 A := ⟨_, rfl⟩
  rw [← hQ]
  unfold f_X8_onward at hF
  refine lv_iload_n hx hb dX8_onward_0 rfl (lv_at hl 2 rfl) ?_
  refine lv_istore (lv' := [(4, .int h), (0, .ref ax), (1, .int u), (2, .int h), (3, .int n)]) hx hb dX8_onward_1 hl (by decide) rfl (fun ls hl => ?_)
  refine lv_iconst (v := (0 : Int32)) hx hb dX8_onward_3 (by decide) ?_
  refine lv_istore (lv' := [(5, .int (0 : Int32)), (4, .int h), (0, .ref ax), (1, .int u), (2, .int h), (3, .int n)]) hx hb dX8_onward_4 hl (by decide) rfl (fun ls hl => ?_)
  have hL6 : ∀ (k6 : Int32 → Int32 → Option Int32), (∀ (v1 : Int32) (v2 : Int32) (H : Heap) (locs : List Loc), va_P D vwCl [(ax, .inr (8, [.int m_letterMany, .ref a_text, .int m_readAt, .ref a_told, .ref a_readLaw, .ref a_readNow, .ref a_law, .ref a_now, .ref a_tried, .int m_undoMany, .int m_undoAt, .ref a_undos, .int m_seenMany, .ref a_seenHour, .ref a_seenAt, .ref a_parts, .ref a_partsThen, .int m_keptMany, .ref a_kept])), (a_law, .inl (cI, 22, .inl m_law)), (a_now, .inl (cI, 26, .inl m_now))] H → va_D A [(ax, .inr (8, [.int m_letterMany, .ref a_text, .int m_readAt, .ref a_told, .ref a_readLaw, .ref a_readNow, .ref a_law, .ref a_now, .ref a_tried, .int m_undoMany, .int m_undoAt, .ref a_undos, .int m_seenMany, .ref a_seenHour, .ref a_seenAt, .ref a_parts, .ref a_partsThen, .int m_keptMany, .ref a_kept])), (a_law, .inl (cI, 22, .inl m_law)), (a_now, .inl (cI, 26, .inl m_now))] → va_S A s.heap H locs → ∀ ls : Array Slot, lv_has ls 6 [(4, .int v1)] → k6 v1 v2 = some rr → W p l e rm_X8_onward s m args below meth c H locs 0 0 Q (F0 m 37 ls [])) → ∀ (nf6 : Nat) (v1 : Int32) (v2 : Int32) (H : Heap) (locs : List Loc), va_P D vwCl [(ax, .inr (8, [.int m_letterMany, .ref a_text, .int m_readAt, .ref a_told, .ref a_readLaw, .ref a_readNow, .ref a_law, .ref a_now, .ref a_tried, .int m_undoMany, .int m_undoAt, .ref a_undos, .int m_seenMany, .ref a_seenHour, .ref a_seenAt, .ref a_parts, .ref a_partsThen, .int m_keptMany, .ref a_kept])), (a_law, .inl (cI, 22, .inl m_law)), (a_now, .inl (cI, 26, .inl m_now))] H → va_D A [(ax, .inr (8, [.int m_letterMany, .ref a_text, .int m_readAt, .ref a_told, .ref a_readLaw, .ref a_readNow, .ref a_law, .ref a_now, .ref a_tried, .int m_undoMany, .int m_undoAt, .ref a_undos, .int m_seenMany, .ref a_seenHour, .ref a_seenAt, .ref a_parts, .ref a_partsThen, .int m_keptMany, .ref a_kept])), (a_law, .inl (cI, 22, .inl m_law)), (a_now, .inl (cI, 26, .inl m_now))] → va_S A s.heap H locs → ∀ ls : Array Slot, lv_has ls 6 [(5, .int v2), (4, .int v1), (0, .ref ax), (1, .int u), (3, .int n)] → f_X8_onward_L6 n m_law u m_now k6 nf6 v1 v2 = some rr → W p l e rm_X8_onward s m args below meth c H locs 0 0 Q (F0 m 6 ls []) := by
    intro k6 hk6 nf6
    induction nf6 with
    | zero =>
      intro v1 v2 H locs hP hD hS ls hl hF
      rw [f_X8_onward_L6_0] at hF
      cases hF
    | succ nf6 ih6 =>
      intro v1 v2 H locs hP hD hS ls hl hF
      rw [f_X8_onward_L6_s] at hF
      refine lv_iload hx hb dX8_onward_6 (lv_at hl 0 rfl) ?_
      refine lv_iload_n hx hb dX8_onward_8 rfl (lv_at hl 4 rfl) ?_
      refine lv_icmp_ge (tgt := 37) hx hb dX8_onward_9 (by decide) (fun c3 => ?_) (fun c3 => ?_)
      · have hF := op_pos c3 hF
        exact hk6 v1 v2 _ _ hP hD hS _ (lv_sub hl [1] rfl) hF
      · have hF := op_neg c3 hF
        refine lv_iload hx hb dX8_onward_12 (lv_at hl 1 rfl) ?_
        refine lv_aload_n hx hb dX8_onward_14 rfl (lv_at hl 2 rfl) ?_
        refine lv_iload_n hx hb dX8_onward_15 rfl (lv_at hl 3 rfl) ?_
        refine lv_aload_n hx hb dX8_onward_16 rfl (lv_at hl 2 rfl) ?_
        refine va_get (D := D) (ci := 8) (v := .ref a_now) (C := RX8) (T := TX8) (N := 19) hx hb hts iX8 hown hK hP 0 rfl rfl 7 (by decide) k_f25 (fun _ h9 => h9) rfl dX8_onward_17 ?_
        refine lv_iconst (v := (0 : Int32)) hx hb dX8_onward_20 (by decide) ?_
        refine va_iald hx hb hK hP 2 0 rfl rfl (okb_in (by decide)) dX8_onward_21 ?_
        refine lv_iload hx hb dX8_onward_22 (lv_at hl 0 rfl) ?_
        refine lv_iadd hx hb dX8_onward_24 ?_
        obtain ⟨r4, hb5, hF⟩ := op_bind hF
        refine xVr (As := [.int u, .int ((m_now (0 : Int32).toNatClampNeg) + v2)]) (rest := [.int v1]) hC hP hD hS [0, 1] (c_X8_goesOn l D cI cC cM ax a_law a_text a_told a_readLaw a_readNow a_now a_tried a_undos a_seenHour a_seenAt a_parts a_partsThen a_kept m_letterMany m_readAt m_undoMany m_undoAt m_seenMany m_keptMany m_law u ((m_now (0 : Int32).toNatClampNeg) + v2) r4 hb5) (cwV 2 hts gX8_onward_X8_goesOn rfl rfl rfl ⟨rfl, pd_X8_goesOn⟩ ⟨Nat.le_of_ble_eq_true rfl, Nat.le_of_ble_eq_true rfl⟩) rfl rfl 0 8 rfl rfl rfl rfl hl.1 rfl (Nat.le_of_ble_eq_true rfl) dX8_onward_25 ⟨Nat.zero_le _, Nat.zero_le _⟩ (fun H locs hP hS => ?_)
        refine lv_iadd hx hb dX8_onward_28 ?_
        refine lv_istore (lv' := [(4, .int (v1 + r4)), (5, .int v2), (0, .ref ax), (1, .int u), (3, .int n)]) hx hb dX8_onward_29 hl (by decide) rfl (fun ls hl => ?_)
        refine lv_iinc (v := (v2 + (1 : Int32))) (lv' := [(5, .int (v2 + (1 : Int32))), (4, .int (v1 + r4)), (0, .ref ax), (1, .int u), (3, .int n)]) hx hb dX8_onward_31 hl (k := 1) rfl (by first | rfl | decide) (by decide) rfl (fun ls hl => ?_)
        refine lv_goto (tgt := 6) hx hb dX8_onward_34 (by decide) ?_
        exact ih6 (v1 + r4) (v2 + (1 : Int32)) _ _ hP hD hS _ (lv_sub hl [0, 1, 2, 3, 4] rfl) hF
  refine hL6 _ (fun v1 v2 H locs hP hD hS ls hl hF => ?_) 20000 h (0 : Int32) _ _ hP hD hS _ (lv_sub hl [0, 1, 2, 3, 5] rfl) hF
  refine lv_iload hx hb dX8_onward_37 (lv_at hl 0 rfl) ?_
  refine lv_bipush (v := (24 : Int32)) hx hb dX8_onward_39 (by decide) ?_
  refine lv_irem hx hb dX8_onward_41 (by decide) ?_
  cases hF
  rw [hQ]
  exact xri hC hP hS dX8_onward_42

def f_X8_untilHour_L2 (u : Int32) (m_law : (Nat → Int32)) (m_now : (Nat → Int32)) (h : Int32) (k2 : Int32 → Option Int32) : Nat → Int32 → Option Int32
  | 0, _ => none
  | nf2 + 1, v1 => (if (48 : Int32) < v1 then (k2 v1) else (if okb ((4 : Int32) + u) 26 = true then (Option.bind (f_X8_onward m_law m_now u (m_now ((4 : Int32) + u).toNatClampNeg) v1) fun r4 => (if r4 = h then (some v1) else (f_X8_untilHour_L2 u m_law m_now h k2 nf2 (v1 + (1 : Int32))))) else none))
theorem f_X8_untilHour_L2_0 (u : Int32) (m_law : (Nat → Int32)) (m_now : (Nat → Int32)) (h : Int32) (k2 : Int32 → Option Int32) (v1 : Int32) : f_X8_untilHour_L2 u m_law m_now h k2 0 v1 = none := rfl
theorem f_X8_untilHour_L2_s (u : Int32) (m_law : (Nat → Int32)) (m_now : (Nat → Int32)) (h : Int32) (k2 : Int32 → Option Int32) (nf2 : Nat) (v1 : Int32) : f_X8_untilHour_L2 u m_law m_now h k2 (nf2 + 1) v1 = (if (48 : Int32) < v1 then (k2 v1) else (if okb ((4 : Int32) + u) 26 = true then (Option.bind (f_X8_onward m_law m_now u (m_now ((4 : Int32) + u).toNatClampNeg) v1) fun r4 => (if r4 = h then (some v1) else (f_X8_untilHour_L2 u m_law m_now h k2 nf2 (v1 + (1 : Int32))))) else none)) := rfl

def f_X8_untilHour (m_law : (Nat → Int32)) (m_now : (Nat → Int32)) (u : Int32) (h : Int32) : Option Int32 := (f_X8_untilHour_L2 u m_law m_now h (fun (v1 : Int32) => (some (-4 : Int32))) 20000 (0 : Int32))

def rm_X8_untilHour : Room := { frames := 2, cells := 0, slots := 0, locals := 48 }

theorem pd_X8_untilHour : yX8_untilHour.cls ≠ "java/lang/invoke/MethodHandle" ∧ yX8_untilHour.cls ≠ "java/lang/invoke/VarHandle" ∧ (parseMethodDescriptor yX8_untilHour.desc).map (fun d => d.parameters.length) = some 2 := by decide +kernel

set_option maxHeartbeats 4000000 in
set_option maxRecDepth 100000 in
theorem c_X8_untilHour (l : Launch) (D : va_G) (cI cC cM : ClassId) (ax a_law a_now a_text a_told a_readLaw a_readNow a_tried a_undos a_seenHour a_seenAt a_parts a_partsThen a_kept : Nat) (m_letterMany : Int32) (m_readAt : Int32) (m_undoMany : Int32) (m_undoAt : Int32) (m_seenMany : Int32) (m_keptMany : Int32) (m_law : (Nat → Int32)) (m_now : (Nat → Int32)) (u : Int32) (h : Int32) (rr : Int32) (hF : f_X8_untilHour m_law m_now u h = some rr) : CI l D cI cC cM yX8_untilHour wsX8_untilHour rm_X8_untilHour [.ref ax, .int u, .int h] [(ax, .inr (8, [.int m_letterMany, .ref a_text, .int m_readAt, .ref a_told, .ref a_readLaw, .ref a_readNow, .ref a_law, .ref a_now, .ref a_tried, .int m_undoMany, .int m_undoAt, .ref a_undos, .int m_seenMany, .ref a_seenHour, .ref a_seenAt, .ref a_parts, .ref a_partsThen, .int m_keptMany, .ref a_kept])), (a_law, .inl (cI, 22, .inl m_law)), (a_now, .inl (cI, 26, .inl m_now))] [(ax, .inr (8, [.int m_letterMany, .ref a_text, .int m_readAt, .ref a_told, .ref a_readLaw, .ref a_readNow, .ref a_law, .ref a_now, .ref a_tried, .int m_undoMany, .int m_undoAt, .ref a_undos, .int m_seenMany, .ref a_seenHour, .ref a_seenAt, .ref a_parts, .ref a_partsThen, .int m_keptMany, .ref a_kept])), (a_law, .inl (cI, 22, .inl m_law)), (a_now, .inl (cI, 26, .inl m_now))] rr := by
  refine CI.of (cc := cX8_untilHour) (nL := 4) (ret := (some .int)) (by decide) rfl (Nat.le_of_ble_eq_true rfl) ?_
  intro p e s m args below meth c A hC hP hD hS ls hl
  obtain ⟨hx, hb, hml, hown, hts, hr, hlk, hG, hA⟩ := id hC
  have hown : s.vm.findClass RX8 = some m.cls := hown
  have hK := hG.1
  have hl : lv_has ls 4 [(0, .ref ax), (1, .int u), (2, .int h)] := hl
  have k_f25 := hts (.fieldLink RX8 25 "ParasolHoursModel" "now" "[I") (List.mem_of_getElem? (i := 1) rfl)
  have iX8 : ∀ w ∈ wsX80, w ∈ wsX8_untilHour := by decide +kernel
  obtain ⟨Q, hQ⟩ : ∃ Q, Q = MQ below (QI D [(ax, .inr (8, [.int m_letterMany, .ref a_text, .int m_readAt, .ref a_told, .ref a_readLaw, .ref a_readNow, .ref a_law, .ref a_now, .ref a_tried, .int m_undoMany, .int m_undoAt, .ref a_undos, .int m_seenMany, .ref a_seenHour, .ref a_seenAt, .ref a_parts, .ref a_partsThen, .int m_keptMany, .ref a_kept])), (a_law, .inl (cI, 22, .inl m_law)), (a_now, .inl (cI, 26, .inl m_now))] rr A) args s 0 0 A := ⟨_, rfl⟩
  rw [← hQ]
  unfold f_X8_untilHour at hF
  refine lv_iconst (v := (0 : Int32)) hx hb dX8_untilHour_0 (by decide) ?_
  refine lv_istore_n (lv' := [(3, .int (0 : Int32)), (0, .ref ax), (1, .int u), (2, .int h)]) hx hb dX8_untilHour_1 rfl hl (by decide) rfl (fun ls hl => ?_)
  have hL2 : ∀ (k2 : Int32 → Option Int32), (∀ (v1 : Int32) (H : Heap) (locs : List Loc), va_P D vwCl [(ax, .inr (8, [.int m_letterMany, .ref a_text, .int m_readAt, .ref a_told, .ref a_readLaw, .ref a_readNow, .ref a_law, .ref a_now, .ref a_tried, .int m_undoMany, .int m_undoAt, .ref a_undos, .int m_seenMany, .ref a_seenHour, .ref a_seenAt, .ref a_parts, .ref a_partsThen, .int m_keptMany, .ref a_kept])), (a_law, .inl (cI, 22, .inl m_law)), (a_now, .inl (cI, 26, .inl m_now))] H → va_D A [(ax, .inr (8, [.int m_letterMany, .ref a_text, .int m_readAt, .ref a_told, .ref a_readLaw, .ref a_readNow, .ref a_law, .ref a_now, .ref a_tried, .int m_undoMany, .int m_undoAt, .ref a_undos, .int m_seenMany, .ref a_seenHour, .ref a_seenAt, .ref a_parts, .ref a_partsThen, .int m_keptMany, .ref a_kept])), (a_law, .inl (cI, 22, .inl m_law)), (a_now, .inl (cI, 26, .inl m_now))] → va_S A s.heap H locs → ∀ ls : Array Slot, lv_has ls 4 [] → k2 v1 = some rr → W p l e rm_X8_untilHour s m args below meth c H locs 0 0 Q (F0 m 34 ls [])) → ∀ (nf2 : Nat) (v1 : Int32) (H : Heap) (locs : List Loc), va_P D vwCl [(ax, .inr (8, [.int m_letterMany, .ref a_text, .int m_readAt, .ref a_told, .ref a_readLaw, .ref a_readNow, .ref a_law, .ref a_now, .ref a_tried, .int m_undoMany, .int m_undoAt, .ref a_undos, .int m_seenMany, .ref a_seenHour, .ref a_seenAt, .ref a_parts, .ref a_partsThen, .int m_keptMany, .ref a_kept])), (a_law, .inl (cI, 22, .inl m_law)), (a_now, .inl (cI, 26, .inl m_now))] H → va_D A [(ax, .inr (8, [.int m_letterMany, .ref a_text, .int m_readAt, .ref a_told, .ref a_readLaw, .ref a_readNow, .ref a_law, .ref a_now, .ref a_tried, .int m_undoMany, .int m_undoAt, .ref a_undos, .int m_seenMany, .ref a_seenHour, .ref a_seenAt, .ref a_parts, .ref a_partsThen, .int m_keptMany, .ref a_kept])), (a_law, .inl (cI, 22, .inl m_law)), (a_now, .inl (cI, 26, .inl m_now))] → va_S A s.heap H locs → ∀ ls : Array Slot, lv_has ls 4 [(3, .int v1), (0, .ref ax), (1, .int u), (2, .int h)] → f_X8_untilHour_L2 u m_law m_now h k2 nf2 v1 = some rr → W p l e rm_X8_untilHour s m args below meth c H locs 0 0 Q (F0 m 2 ls []) := by
    intro k2 hk2 nf2
    induction nf2 with
    | zero =>
      intro v1 H locs hP hD hS ls hl hF
      rw [f_X8_untilHour_L2_0] at hF
      cases hF
    | succ nf2 ih2 =>
      intro v1 H locs hP hD hS ls hl hF
      rw [f_X8_untilHour_L2_s] at hF
      refine lv_iload_n hx hb dX8_untilHour_2 rfl (lv_at hl 0 rfl) ?_
      refine lv_bipush (v := (48 : Int32)) hx hb dX8_untilHour_3 (by decide) ?_
      refine lv_icmp_gt (tgt := 34) hx hb dX8_untilHour_5 (by decide) (fun c2 => ?_) (fun c2 => ?_)
      · have hF := op_pos c2 hF
        exact hk2 v1 _ _ hP hD hS _ (lv_sub hl [] rfl) hF
      · have hF := op_neg c2 hF
        refine lv_aload_n hx hb dX8_untilHour_8 rfl (lv_at hl 1 rfl) ?_
        refine lv_iload_n hx hb dX8_untilHour_9 rfl (lv_at hl 2 rfl) ?_
        refine lv_aload_n hx hb dX8_untilHour_10 rfl (lv_at hl 1 rfl) ?_
        refine va_get (D := D) (ci := 8) (v := .ref a_now) (C := RX8) (T := TX8) (N := 19) hx hb hts iX8 hown hK hP 0 rfl rfl 7 (by decide) k_f25 (fun _ h9 => h9) rfl dX8_untilHour_11 ?_
        refine lv_iconst (v := (4 : Int32)) hx hb dX8_untilHour_14 (by decide) ?_
        refine lv_iload_n hx hb dX8_untilHour_15 rfl (lv_at hl 2 rfl) ?_
        refine lv_iadd hx hb dX8_untilHour_16 ?_
        obtain ⟨o3, hF⟩ := op_ob hF
        refine va_iald hx hb hK hP 2 0 rfl rfl (okb_in o3) dX8_untilHour_17 ?_
        refine lv_iload_n hx hb dX8_untilHour_18 rfl (lv_at hl 0 rfl) ?_
        obtain ⟨r4, hb5, hF⟩ := op_bind hF
        refine xVr (As := [.int u, .int (m_now ((4 : Int32) + u).toNatClampNeg), .int v1]) (rest := []) hC hP hD hS [0, 1, 2] (c_X8_onward l D cI cC cM ax a_law a_now a_text a_told a_readLaw a_readNow a_tried a_undos a_seenHour a_seenAt a_parts a_partsThen a_kept m_letterMany m_readAt m_undoMany m_undoAt m_seenMany m_keptMany m_law m_now u (m_now ((4 : Int32) + u).toNatClampNeg) v1 r4 hb5) (cwV 3 hts gX8_untilHour_X8_onward rfl rfl rfl ⟨rfl, pd_X8_onward⟩ ⟨Nat.le_of_ble_eq_true rfl, Nat.le_of_ble_eq_true rfl⟩) rfl rfl 0 8 rfl rfl rfl rfl hl.1 rfl (Nat.le_of_ble_eq_true rfl) dX8_untilHour_19 ⟨Nat.zero_le _, Nat.zero_le _⟩ (fun H locs hP hS => ?_)
        refine lv_iload_n hx hb dX8_untilHour_22 rfl (lv_at hl 3 rfl) ?_
        refine lv_icmp_ne (tgt := 28) hx hb dX8_untilHour_23 (by decide) (fun c6 => ?_) (fun c6 => ?_)
        · have hF := op_neg c6 hF
          refine lv_iinc (v := (v1 + (1 : Int32))) (lv' := [(3, .int (v1 + (1 : Int32))), (0, .ref ax), (1, .int u), (2, .int h)]) hx hb dX8_untilHour_28 hl (k := 0) rfl (by first | rfl | decide) (by decide) rfl (fun ls hl => ?_)
          refine lv_goto (tgt := 2) hx hb dX8_untilHour_31 (by decide) ?_
          exact ih2 (v1 + (1 : Int32)) _ _ hP hD hS _ (lv_sub hl [0, 1, 2, 3] rfl) hF
        · have hF := op_pos c6 hF
          refine lv_iload_n hx hb dX8_untilHour_26 rfl (lv_at hl 0 rfl) ?_
          cases hF
          rw [hQ]
          exact xri hC hP hS dX8_untilHour_27
  refine hL2 _ (fun v1 H locs hP hD hS ls hl hF => ?_) 20000 (0 : Int32) _ _ hP hD hS _ (lv_sub hl [0, 1, 2, 3] rfl) hF
  refine lv_bipush (v := (-4 : Int32)) hx hb dX8_untilHour_34 (by decide) ?_
  cases hF
  rw [hQ]
  exact xri hC hP hS dX8_untilHour_36

def f_X8_until (m_law : (Nat → Int32)) (m_now : (Nat → Int32)) (u : Int32) (h : Int32) : Option Int32 := (Option.bind (f_X8_isParasol m_law u) fun r1 => (if r1 = 0 then (some (-1 : Int32)) else (Option.bind (f_X8_isHour h) fun r4 => (if r4 = 0 then (some (-1 : Int32)) else (Option.bind (f_X8_untilHour m_law m_now u h) fun r7 => (some r7))))))

def rm_X8_until : Room := { frames := 3, cells := 0, slots := 0, locals := 71 }

theorem pd_X8_until : yX8_until.cls ≠ "java/lang/invoke/MethodHandle" ∧ yX8_until.cls ≠ "java/lang/invoke/VarHandle" ∧ (parseMethodDescriptor yX8_until.desc).map (fun d => d.parameters.length) = some 2 := by decide +kernel

set_option maxHeartbeats 4000000 in
set_option maxRecDepth 100000 in
theorem c_X8_until (l : Launch) (D : va_G) (cI cC cM : ClassId) (ax a_law a_now a_text a_told a_readLaw a_readNow a_tried a_undos a_seenHour a_seenAt a_parts a_partsThen a_kept : Nat) (m_letterMany : Int32) (m_readAt : Int32) (m_undoMany : Int32) (m_undoAt : Int32) (m_seenMany : Int32) (m_keptMany : Int32) (m_law : (Nat → Int32)) (m_now : (Nat → Int32)) (u : Int32) (h : Int32) (rr : Int32) (hF : f_X8_until m_law m_now u h = some rr) : CI l D cI cC cM yX8_until wsX8_until rm_X8_until [.ref ax, .int u, .int h] [(ax, .inr (8, [.int m_letterMany, .ref a_text, .int m_readAt, .ref a_told, .ref a_readLaw, .ref a_readNow, .ref a_law, .ref a_now, .ref a_tried, .int m_undoMany, .int m_undoAt, .ref a_undos, .int m_seenMany, .ref a_seenHour, .ref a_seenAt, .ref a_parts, .ref a_partsThen, .int m_keptMany, .ref a_kept])), (a_law, .inl (cI, 22, .inl m_law)), (a_now, .inl (cI, 26, .inl m_now))] [(ax, .inr (8, [.int m_letterMany, .ref a_text, .int m_readAt, .ref a_told, .ref a_readLaw, .ref a_readNow, .ref a_law, .ref a_now, .ref a_tried, .int m_undoMany, .int m_undoAt, .ref a_undos, .int m_seenMany, .ref a_seenHour, .ref a_seenAt, .ref a_parts, .ref a_partsThen, .int m_keptMany, .ref a_kept])), (a_law, .inl (cI, 22, .inl m_law)), (a_now, .inl (cI, 26, .inl m_now))] rr := by
  refine CI.of (cc := cX8_until) (nL := 3) (ret := (some .int)) (by decide) rfl (Nat.le_of_ble_eq_true rfl) ?_
  intro p e s m args below meth c A hC hP hD hS ls hl
  obtain ⟨hx, hb, hml, hown, hts, hr, hlk, hG, hA⟩ := id hC
  have hown : s.vm.findClass RX8 = some m.cls := hown
  have hK := hG.1
  have hl : lv_has ls 3 [(0, .ref ax), (1, .int u), (2, .int h)] := hl
  obtain ⟨Q, hQ⟩ : ∃ Q, Q = MQ below (QI D [(ax, .inr (8, [.int m_letterMany, .ref a_text, .int m_readAt, .ref a_told, .ref a_readLaw, .ref a_readNow, .ref a_law, .ref a_now, .ref a_tried, .int m_undoMany, .int m_undoAt, .ref a_undos, .int m_seenMany, .ref a_seenHour, .ref a_seenAt, .ref a_parts, .ref a_partsThen, .int m_keptMany, .ref a_kept])), (a_law, .inl (cI, 22, .inl m_law)), (a_now, .inl (cI, 26, .inl m_now))] rr A) args s 0 0 A := ⟨_, rfl⟩
  rw [← hQ]
  unfold f_X8_until at hF
  refine lv_aload_n hx hb dX8_until_0 rfl (lv_at hl 0 rfl) ?_
  refine lv_iload_n hx hb dX8_until_1 rfl (lv_at hl 1 rfl) ?_
  obtain ⟨r1, hb2, hF⟩ := op_bind hF
  refine xVr (As := [.int u]) (rest := []) hC hP hD hS [0, 1] (c_X8_isParasol l D cI cC cM ax a_law a_text a_told a_readLaw a_readNow a_now a_tried a_undos a_seenHour a_seenAt a_parts a_partsThen a_kept m_letterMany m_readAt m_undoMany m_undoAt m_seenMany m_keptMany m_law u r1 hb2) (cwV 1 hts gX8_until_X8_isParasol rfl rfl rfl ⟨rfl, pd_X8_isParasol⟩ ⟨Nat.le_of_ble_eq_true rfl, Nat.le_of_ble_eq_true rfl⟩) rfl rfl 0 8 rfl rfl rfl rfl hl.1 rfl (Nat.le_of_ble_eq_true rfl) dX8_until_2 ⟨Nat.zero_le _, Nat.zero_le _⟩ (fun H locs hP hS => ?_)
  refine lv_if_eq (tgt := 24) hx hb dX8_until_5 (by decide) (fun c3 => ?_) (fun c3 => ?_)
  · have hF := op_pos c3 hF
    refine lv_iconst (v := (-1 : Int32)) hx hb dX8_until_24 (by decide) ?_
    cases hF
    rw [hQ]
    exact xri hC hP hS dX8_until_25
  · have hF := op_neg c3 hF
    refine lv_iload_n hx hb dX8_until_8 rfl (lv_at hl 2 rfl) ?_
    obtain ⟨r4, hb5, hF⟩ := op_bind hF
    refine xSr (As := [.int h]) (rest := []) hC hP hD hS [] (c_X8_isHour l D cI cC cM h r4 hb5) (va_cwS 1 hts gX8_until_X8_isHour rfl rfl rfl pd_X8_isHour ⟨Nat.le_of_ble_eq_true rfl, Nat.le_of_ble_eq_true rfl⟩) rfl rfl rfl hl.1 rfl (Nat.le_of_ble_eq_true rfl) dX8_until_9 ⟨Nat.zero_le _, Nat.zero_le _⟩ (fun H locs hP hS => ?_)
    refine lv_if_eq (tgt := 24) hx hb dX8_until_12 (by decide) (fun c6 => ?_) (fun c6 => ?_)
    · have hF := op_pos c6 hF
      refine lv_iconst (v := (-1 : Int32)) hx hb dX8_until_24 (by decide) ?_
      cases hF
      rw [hQ]
      exact xri hC hP hS dX8_until_25
    · have hF := op_neg c6 hF
      refine lv_aload_n hx hb dX8_until_15 rfl (lv_at hl 0 rfl) ?_
      refine lv_iload_n hx hb dX8_until_16 rfl (lv_at hl 1 rfl) ?_
      refine lv_iload_n hx hb dX8_until_17 rfl (lv_at hl 2 rfl) ?_
      obtain ⟨r7, hb8, hF⟩ := op_bind hF
      refine xVr (As := [.int u, .int h]) (rest := []) hC hP hD hS [0, 1, 2] (c_X8_untilHour l D cI cC cM ax a_law a_now a_text a_told a_readLaw a_readNow a_tried a_undos a_seenHour a_seenAt a_parts a_partsThen a_kept m_letterMany m_readAt m_undoMany m_undoAt m_seenMany m_keptMany m_law m_now u h r7 hb8) (cwV 2 hts gX8_until_X8_untilHour rfl rfl rfl ⟨rfl, pd_X8_untilHour⟩ ⟨Nat.le_of_ble_eq_true rfl, Nat.le_of_ble_eq_true rfl⟩) rfl rfl 0 8 rfl rfl rfl rfl hl.1 rfl (Nat.le_of_ble_eq_true rfl) dX8_until_18 ⟨Nat.zero_le _, Nat.zero_le _⟩ (fun H locs hP hS => ?_)
      refine lv_goto (tgt := 25) hx hb dX8_until_21 (by decide) ?_
      cases hF
      rw [hQ]
      exact xri hC hP hS dX8_until_25

def f_X8_agree_L25 (u : Int32) (m_law : (Nat → Int32)) (m_now : (Nat → Int32)) (v : Int32) (k25 : Int32 → Option Int32) : Nat → Int32 → Option Int32
  | 0, _ => none
  | nf25 + 1, v8 => (if (48 : Int32) < v8 then (k25 v8) else (if okb ((4 : Int32) + u) 26 = true then (Option.bind (f_X8_onward m_law m_now u (m_now ((4 : Int32) + u).toNatClampNeg) v8) fun r11 => (if okb ((4 : Int32) + v) 26 = true then (Option.bind (f_X8_onward m_law m_now v (m_now ((4 : Int32) + v).toNatClampNeg) v8) fun r14 => (if r11 = r14 then (some v8) else (f_X8_agree_L25 u m_law m_now v k25 nf25 (v8 + (1 : Int32))))) else none)) else none))
theorem f_X8_agree_L25_0 (u : Int32) (m_law : (Nat → Int32)) (m_now : (Nat → Int32)) (v : Int32) (k25 : Int32 → Option Int32) (v8 : Int32) : f_X8_agree_L25 u m_law m_now v k25 0 v8 = none := rfl
theorem f_X8_agree_L25_s (u : Int32) (m_law : (Nat → Int32)) (m_now : (Nat → Int32)) (v : Int32) (k25 : Int32 → Option Int32) (nf25 : Nat) (v8 : Int32) : f_X8_agree_L25 u m_law m_now v k25 (nf25 + 1) v8 = (if (48 : Int32) < v8 then (k25 v8) else (if okb ((4 : Int32) + u) 26 = true then (Option.bind (f_X8_onward m_law m_now u (m_now ((4 : Int32) + u).toNatClampNeg) v8) fun r11 => (if okb ((4 : Int32) + v) 26 = true then (Option.bind (f_X8_onward m_law m_now v (m_now ((4 : Int32) + v).toNatClampNeg) v8) fun r14 => (if r11 = r14 then (some v8) else (f_X8_agree_L25 u m_law m_now v k25 nf25 (v8 + (1 : Int32))))) else none)) else none)) := rfl

def f_X8_agree (m_law : (Nat → Int32)) (m_now : (Nat → Int32)) (u : Int32) (v : Int32) : Option Int32 := (Option.bind (f_X8_isParasol m_law u) fun r1 => (if r1 = 0 then (some (-1 : Int32)) else (Option.bind (f_X8_isParasol m_law v) fun r4 => (if r4 = 0 then (some (-1 : Int32)) else (if u = v then (some (-1 : Int32)) else (f_X8_agree_L25 u m_law m_now v (fun (v8 : Int32) => (some (-4 : Int32))) 20000 (0 : Int32)))))))

def rm_X8_agree : Room := { frames := 2, cells := 0, slots := 0, locals := 48 }

theorem pd_X8_agree : yX8_agree.cls ≠ "java/lang/invoke/MethodHandle" ∧ yX8_agree.cls ≠ "java/lang/invoke/VarHandle" ∧ (parseMethodDescriptor yX8_agree.desc).map (fun d => d.parameters.length) = some 2 := by decide +kernel

set_option maxHeartbeats 4000000 in
set_option maxRecDepth 100000 in
theorem c_X8_agree (l : Launch) (D : va_G) (cI cC cM : ClassId) (ax a_law a_now a_text a_told a_readLaw a_readNow a_tried a_undos a_seenHour a_seenAt a_parts a_partsThen a_kept : Nat) (m_letterMany : Int32) (m_readAt : Int32) (m_undoMany : Int32) (m_undoAt : Int32) (m_seenMany : Int32) (m_keptMany : Int32) (m_law : (Nat → Int32)) (m_now : (Nat → Int32)) (u : Int32) (v : Int32) (rr : Int32) (hF : f_X8_agree m_law m_now u v = some rr) : CI l D cI cC cM yX8_agree wsX8_agree rm_X8_agree [.ref ax, .int u, .int v] [(ax, .inr (8, [.int m_letterMany, .ref a_text, .int m_readAt, .ref a_told, .ref a_readLaw, .ref a_readNow, .ref a_law, .ref a_now, .ref a_tried, .int m_undoMany, .int m_undoAt, .ref a_undos, .int m_seenMany, .ref a_seenHour, .ref a_seenAt, .ref a_parts, .ref a_partsThen, .int m_keptMany, .ref a_kept])), (a_law, .inl (cI, 22, .inl m_law)), (a_now, .inl (cI, 26, .inl m_now))] [(ax, .inr (8, [.int m_letterMany, .ref a_text, .int m_readAt, .ref a_told, .ref a_readLaw, .ref a_readNow, .ref a_law, .ref a_now, .ref a_tried, .int m_undoMany, .int m_undoAt, .ref a_undos, .int m_seenMany, .ref a_seenHour, .ref a_seenAt, .ref a_parts, .ref a_partsThen, .int m_keptMany, .ref a_kept])), (a_law, .inl (cI, 22, .inl m_law)), (a_now, .inl (cI, 26, .inl m_now))] rr := by
  refine CI.of (cc := cX8_agree) (nL := 4) (ret := (some .int)) (by decide) rfl (Nat.le_of_ble_eq_true rfl) ?_
  intro p e s m args below meth c A hC hP hD hS ls hl
  obtain ⟨hx, hb, hml, hown, hts, hr, hlk, hG, hA⟩ := id hC
  have hown : s.vm.findClass RX8 = some m.cls := hown
  have hK := hG.1
  have hl : lv_has ls 4 [(0, .ref ax), (1, .int u), (2, .int v)] := hl
  have k_f25 := hts (.fieldLink RX8 25 "ParasolHoursModel" "now" "[I") (List.mem_of_getElem? (i := 1) rfl)
  have iX8 : ∀ w ∈ wsX80, w ∈ wsX8_agree := by decide +kernel
  obtain ⟨Q, hQ⟩ : ∃ Q, Q = MQ below (QI D [(ax, .inr (8, [.int m_letterMany, .ref a_text, .int m_readAt, .ref a_told, .ref a_readLaw, .ref a_readNow, .ref a_law, .ref a_now, .ref a_tried, .int m_undoMany, .int m_undoAt, .ref a_undos, .int m_seenMany, .ref a_seenHour, .ref a_seenAt, .ref a_parts, .ref a_partsThen, .int m_keptMany, .ref a_kept])), (a_law, .inl (cI, 22, .inl m_law)), (a_now, .inl (cI, 26, .inl m_now))] rr A) args s 0 0 A := ⟨_, rfl⟩
  rw [← hQ]
  unfold f_X8_agree at hF
  refine lv_aload_n hx hb dX8_agree_0 rfl (lv_at hl 0 rfl) ?_
  refine lv_iload_n hx hb dX8_agree_1 rfl (lv_at hl 1 rfl) ?_
  obtain ⟨r1, hb2, hF⟩ := op_bind hF
  refine xVr (As := [.int u]) (rest := []) hC hP hD hS [0, 1] (c_X8_isParasol l D cI cC cM ax a_law a_text a_told a_readLaw a_readNow a_now a_tried a_undos a_seenHour a_seenAt a_parts a_partsThen a_kept m_letterMany m_readAt m_undoMany m_undoAt m_seenMany m_keptMany m_law u r1 hb2) (cwV 1 hts gX8_agree_X8_isParasol rfl rfl rfl ⟨rfl, pd_X8_isParasol⟩ ⟨Nat.le_of_ble_eq_true rfl, Nat.le_of_ble_eq_true rfl⟩) rfl rfl 0 8 rfl rfl rfl rfl hl.1 rfl (Nat.le_of_ble_eq_true rfl) dX8_agree_2 ⟨Nat.zero_le _, Nat.zero_le _⟩ (fun H locs hP hS => ?_)
  refine lv_if_eq (tgt := 21) hx hb dX8_agree_5 (by decide) (fun c3 => ?_) (fun c3 => ?_)
  · have hF := op_pos c3 hF
    refine lv_iconst (v := (-1 : Int32)) hx hb dX8_agree_21 (by decide) ?_
    cases hF
    rw [hQ]
    exact xri hC hP hS dX8_agree_22
  · have hF := op_neg c3 hF
    refine lv_aload_n hx hb dX8_agree_8 rfl (lv_at hl 0 rfl) ?_
    refine lv_iload_n hx hb dX8_agree_9 rfl (lv_at hl 2 rfl) ?_
    obtain ⟨r4, hb5, hF⟩ := op_bind hF
    refine xVr (As := [.int v]) (rest := []) hC hP hD hS [0, 1] (c_X8_isParasol l D cI cC cM ax a_law a_text a_told a_readLaw a_readNow a_now a_tried a_undos a_seenHour a_seenAt a_parts a_partsThen a_kept m_letterMany m_readAt m_undoMany m_undoAt m_seenMany m_keptMany m_law v r4 hb5) (cwV 1 hts gX8_agree_X8_isParasol rfl rfl rfl ⟨rfl, pd_X8_isParasol⟩ ⟨Nat.le_of_ble_eq_true rfl, Nat.le_of_ble_eq_true rfl⟩) rfl rfl 0 8 rfl rfl rfl rfl hl.1 rfl (Nat.le_of_ble_eq_true rfl) dX8_agree_10 ⟨Nat.zero_le _, Nat.zero_le _⟩ (fun H locs hP hS => ?_)
    refine lv_if_eq (tgt := 21) hx hb dX8_agree_13 (by decide) (fun c6 => ?_) (fun c6 => ?_)
    · have hF := op_pos c6 hF
      refine lv_iconst (v := (-1 : Int32)) hx hb dX8_agree_21 (by decide) ?_
      cases hF
      rw [hQ]
      exact xri hC hP hS dX8_agree_22
    · have hF := op_neg c6 hF
      refine lv_iload_n hx hb dX8_agree_16 rfl (lv_at hl 1 rfl) ?_
      refine lv_iload_n hx hb dX8_agree_17 rfl (lv_at hl 2 rfl) ?_
      refine lv_icmp_ne (tgt := 23) hx hb dX8_agree_18 (by decide) (fun c7 => ?_) (fun c7 => ?_)
      · have hF := op_neg c7 hF
        refine lv_iconst (v := (0 : Int32)) hx hb dX8_agree_23 (by decide) ?_
        refine lv_istore_n (lv' := [(3, .int (0 : Int32)), (0, .ref ax), (1, .int u), (2, .int v)]) hx hb dX8_agree_24 rfl hl (by decide) rfl (fun ls hl => ?_)
        have hL25 : ∀ (k25 : Int32 → Option Int32), (∀ (v8 : Int32) (H : Heap) (locs : List Loc), va_P D vwCl [(ax, .inr (8, [.int m_letterMany, .ref a_text, .int m_readAt, .ref a_told, .ref a_readLaw, .ref a_readNow, .ref a_law, .ref a_now, .ref a_tried, .int m_undoMany, .int m_undoAt, .ref a_undos, .int m_seenMany, .ref a_seenHour, .ref a_seenAt, .ref a_parts, .ref a_partsThen, .int m_keptMany, .ref a_kept])), (a_law, .inl (cI, 22, .inl m_law)), (a_now, .inl (cI, 26, .inl m_now))] H → va_D A [(ax, .inr (8, [.int m_letterMany, .ref a_text, .int m_readAt, .ref a_told, .ref a_readLaw, .ref a_readNow, .ref a_law, .ref a_now, .ref a_tried, .int m_undoMany, .int m_undoAt, .ref a_undos, .int m_seenMany, .ref a_seenHour, .ref a_seenAt, .ref a_parts, .ref a_partsThen, .int m_keptMany, .ref a_kept])), (a_law, .inl (cI, 22, .inl m_law)), (a_now, .inl (cI, 26, .inl m_now))] → va_S A s.heap H locs → ∀ ls : Array Slot, lv_has ls 4 [] → k25 v8 = some rr → W p l e rm_X8_agree s m args below meth c H locs 0 0 Q (F0 m 70 ls [])) → ∀ (nf25 : Nat) (v8 : Int32) (H : Heap) (locs : List Loc), va_P D vwCl [(ax, .inr (8, [.int m_letterMany, .ref a_text, .int m_readAt, .ref a_told, .ref a_readLaw, .ref a_readNow, .ref a_law, .ref a_now, .ref a_tried, .int m_undoMany, .int m_undoAt, .ref a_undos, .int m_seenMany, .ref a_seenHour, .ref a_seenAt, .ref a_parts, .ref a_partsThen, .int m_keptMany, .ref a_kept])), (a_law, .inl (cI, 22, .inl m_law)), (a_now, .inl (cI, 26, .inl m_now))] H → va_D A [(ax, .inr (8, [.int m_letterMany, .ref a_text, .int m_readAt, .ref a_told, .ref a_readLaw, .ref a_readNow, .ref a_law, .ref a_now, .ref a_tried, .int m_undoMany, .int m_undoAt, .ref a_undos, .int m_seenMany, .ref a_seenHour, .ref a_seenAt, .ref a_parts, .ref a_partsThen, .int m_keptMany, .ref a_kept])), (a_law, .inl (cI, 22, .inl m_law)), (a_now, .inl (cI, 26, .inl m_now))] → va_S A s.heap H locs → ∀ ls : Array Slot, lv_has ls 4 [(3, .int v8), (0, .ref ax), (1, .int u), (2, .int v)] → f_X8_agree_L25 u m_law m_now v k25 nf25 v8 = some rr → W p l e rm_X8_agree s m args below meth c H locs 0 0 Q (F0 m 25 ls []) := by
          intro k25 hk25 nf25
          induction nf25 with
          | zero =>
            intro v8 H locs hP hD hS ls hl hF
            rw [f_X8_agree_L25_0] at hF
            cases hF
          | succ nf25 ih25 =>
            intro v8 H locs hP hD hS ls hl hF
            rw [f_X8_agree_L25_s] at hF
            refine lv_iload_n hx hb dX8_agree_25 rfl (lv_at hl 0 rfl) ?_
            refine lv_bipush (v := (48 : Int32)) hx hb dX8_agree_26 (by decide) ?_
            refine lv_icmp_gt (tgt := 70) hx hb dX8_agree_28 (by decide) (fun c9 => ?_) (fun c9 => ?_)
            · have hF := op_pos c9 hF
              exact hk25 v8 _ _ hP hD hS _ (lv_sub hl [] rfl) hF
            · have hF := op_neg c9 hF
              refine lv_aload_n hx hb dX8_agree_31 rfl (lv_at hl 1 rfl) ?_
              refine lv_iload_n hx hb dX8_agree_32 rfl (lv_at hl 2 rfl) ?_
              refine lv_aload_n hx hb dX8_agree_33 rfl (lv_at hl 1 rfl) ?_
              refine va_get (D := D) (ci := 8) (v := .ref a_now) (C := RX8) (T := TX8) (N := 19) hx hb hts iX8 hown hK hP 0 rfl rfl 7 (by decide) k_f25 (fun _ h9 => h9) rfl dX8_agree_34 ?_
              refine lv_iconst (v := (4 : Int32)) hx hb dX8_agree_37 (by decide) ?_
              refine lv_iload_n hx hb dX8_agree_38 rfl (lv_at hl 2 rfl) ?_
              refine lv_iadd hx hb dX8_agree_39 ?_
              obtain ⟨o10, hF⟩ := op_ob hF
              refine va_iald hx hb hK hP 2 0 rfl rfl (okb_in o10) dX8_agree_40 ?_
              refine lv_iload_n hx hb dX8_agree_41 rfl (lv_at hl 0 rfl) ?_
              obtain ⟨r11, hb12, hF⟩ := op_bind hF
              refine xVr (As := [.int u, .int (m_now ((4 : Int32) + u).toNatClampNeg), .int v8]) (rest := []) hC hP hD hS [0, 1, 2] (c_X8_onward l D cI cC cM ax a_law a_now a_text a_told a_readLaw a_readNow a_tried a_undos a_seenHour a_seenAt a_parts a_partsThen a_kept m_letterMany m_readAt m_undoMany m_undoAt m_seenMany m_keptMany m_law m_now u (m_now ((4 : Int32) + u).toNatClampNeg) v8 r11 hb12) (cwV 3 hts gX8_agree_X8_onward rfl rfl rfl ⟨rfl, pd_X8_onward⟩ ⟨Nat.le_of_ble_eq_true rfl, Nat.le_of_ble_eq_true rfl⟩) rfl rfl 0 8 rfl rfl rfl rfl hl.1 rfl (Nat.le_of_ble_eq_true rfl) dX8_agree_42 ⟨Nat.zero_le _, Nat.zero_le _⟩ (fun H locs hP hS => ?_)
              refine lv_aload_n hx hb dX8_agree_45 rfl (lv_at hl 1 rfl) ?_
              refine lv_iload_n hx hb dX8_agree_46 rfl (lv_at hl 3 rfl) ?_
              refine lv_aload_n hx hb dX8_agree_47 rfl (lv_at hl 1 rfl) ?_
              refine va_get (D := D) (ci := 8) (v := .ref a_now) (C := RX8) (T := TX8) (N := 19) hx hb hts iX8 hown hK hP 0 rfl rfl 7 (by decide) k_f25 (fun _ h9 => h9) rfl dX8_agree_48 ?_
              refine lv_iconst (v := (4 : Int32)) hx hb dX8_agree_51 (by decide) ?_
              refine lv_iload_n hx hb dX8_agree_52 rfl (lv_at hl 3 rfl) ?_
              refine lv_iadd hx hb dX8_agree_53 ?_
              obtain ⟨o13, hF⟩ := op_ob hF
              refine va_iald hx hb hK hP 2 0 rfl rfl (okb_in o13) dX8_agree_54 ?_
              refine lv_iload_n hx hb dX8_agree_55 rfl (lv_at hl 0 rfl) ?_
              obtain ⟨r14, hb15, hF⟩ := op_bind hF
              refine xVr (As := [.int v, .int (m_now ((4 : Int32) + v).toNatClampNeg), .int v8]) (rest := [.int r11]) hC hP hD hS [0, 1, 2] (c_X8_onward l D cI cC cM ax a_law a_now a_text a_told a_readLaw a_readNow a_tried a_undos a_seenHour a_seenAt a_parts a_partsThen a_kept m_letterMany m_readAt m_undoMany m_undoAt m_seenMany m_keptMany m_law m_now v (m_now ((4 : Int32) + v).toNatClampNeg) v8 r14 hb15) (cwV 3 hts gX8_agree_X8_onward rfl rfl rfl ⟨rfl, pd_X8_onward⟩ ⟨Nat.le_of_ble_eq_true rfl, Nat.le_of_ble_eq_true rfl⟩) rfl rfl 0 8 rfl rfl rfl rfl hl.1 rfl (Nat.le_of_ble_eq_true rfl) dX8_agree_56 ⟨Nat.zero_le _, Nat.zero_le _⟩ (fun H locs hP hS => ?_)
              refine lv_icmp_ne (tgt := 64) hx hb dX8_agree_59 (by decide) (fun c16 => ?_) (fun c16 => ?_)
              · have hF := op_neg c16 hF
                refine lv_iinc (v := (v8 + (1 : Int32))) (lv' := [(3, .int (v8 + (1 : Int32))), (0, .ref ax), (1, .int u), (2, .int v)]) hx hb dX8_agree_64 hl (k := 0) rfl (by first | rfl | decide) (by decide) rfl (fun ls hl => ?_)
                refine lv_goto (tgt := 25) hx hb dX8_agree_67 (by decide) ?_
                exact ih25 (v8 + (1 : Int32)) _ _ hP hD hS _ (lv_sub hl [0, 1, 2, 3] rfl) hF
              · have hF := op_pos c16 hF
                refine lv_iload_n hx hb dX8_agree_62 rfl (lv_at hl 0 rfl) ?_
                cases hF
                rw [hQ]
                exact xri hC hP hS dX8_agree_63
        refine hL25 _ (fun v8 H locs hP hD hS ls hl hF => ?_) 20000 (0 : Int32) _ _ hP hD hS _ (lv_sub hl [0, 1, 2, 3] rfl) hF
        refine lv_bipush (v := (-4 : Int32)) hx hb dX8_agree_70 (by decide) ?_
        cases hF
        rw [hQ]
        exact xri hC hP hS dX8_agree_72
      · have hF := op_pos c7 hF
        refine lv_iconst (v := (-1 : Int32)) hx hb dX8_agree_21 (by decide) ?_
        cases hF
        rw [hQ]
        exact xri hC hP hS dX8_agree_22

def f_X8_dealt_L12 (j : Int32) (m_law : (Nat → Int32)) (k12 : Int32 → Int32 → Option Int32) : Nat → Int32 → Int32 → Option Int32
  | 0, _, _ => none
  | nf12 + 1, v1, v2 => (if v2 ≤ j then (k12 v1 v2) else (if ((m_law (1 : Int32).toNatClampNeg) + (1 : Int32)) = 0 then none else (f_X8_dealt_L12 j m_law k12 nf12 (v1 / ((m_law (1 : Int32).toNatClampNeg) + (1 : Int32))) (v2 + (-1 : Int32)))))
theorem f_X8_dealt_L12_0 (j : Int32) (m_law : (Nat → Int32)) (k12 : Int32 → Int32 → Option Int32) (v1 : Int32) (v2 : Int32) : f_X8_dealt_L12 j m_law k12 0 v1 v2 = none := rfl
theorem f_X8_dealt_L12_s (j : Int32) (m_law : (Nat → Int32)) (k12 : Int32 → Int32 → Option Int32) (nf12 : Nat) (v1 : Int32) (v2 : Int32) : f_X8_dealt_L12 j m_law k12 (nf12 + 1) v1 v2 = (if v2 ≤ j then (k12 v1 v2) else (if ((m_law (1 : Int32).toNatClampNeg) + (1 : Int32)) = 0 then none else (f_X8_dealt_L12 j m_law k12 nf12 (v1 / ((m_law (1 : Int32).toNatClampNeg) + (1 : Int32))) (v2 + (-1 : Int32))))) := rfl

def f_X8_dealt (m_law : (Nat → Int32)) (i : Int32) (j : Int32) : Option Int32 := (f_X8_dealt_L12 j m_law (fun (v1 : Int32) (v2 : Int32) => (if ((m_law (1 : Int32).toNatClampNeg) + (1 : Int32)) = 0 then none else (some (jrem v1 ((m_law (1 : Int32).toNatClampNeg) + (1 : Int32)))))) 20000 i ((m_law (2 : Int32).toNatClampNeg) - (1 : Int32)))

def rm_X8_dealt : Room := { frames := 0, cells := 0, slots := 0, locals := 0 }

theorem pd_X8_dealt : yX8_dealt.cls ≠ "java/lang/invoke/MethodHandle" ∧ yX8_dealt.cls ≠ "java/lang/invoke/VarHandle" ∧ (parseMethodDescriptor yX8_dealt.desc).map (fun d => d.parameters.length) = some 2 := by decide +kernel

set_option maxHeartbeats 4000000 in
set_option maxRecDepth 100000 in
theorem c_X8_dealt (l : Launch) (D : va_G) (cI cC cM : ClassId) (ax a_law a_text a_told a_readLaw a_readNow a_now a_tried a_undos a_seenHour a_seenAt a_parts a_partsThen a_kept : Nat) (m_letterMany : Int32) (m_readAt : Int32) (m_undoMany : Int32) (m_undoAt : Int32) (m_seenMany : Int32) (m_keptMany : Int32) (m_law : (Nat → Int32)) (i : Int32) (j : Int32) (rr : Int32) (hF : f_X8_dealt m_law i j = some rr) : CI l D cI cC cM yX8_dealt wsX8_dealt rm_X8_dealt [.ref ax, .int i, .int j] [(ax, .inr (8, [.int m_letterMany, .ref a_text, .int m_readAt, .ref a_told, .ref a_readLaw, .ref a_readNow, .ref a_law, .ref a_now, .ref a_tried, .int m_undoMany, .int m_undoAt, .ref a_undos, .int m_seenMany, .ref a_seenHour, .ref a_seenAt, .ref a_parts, .ref a_partsThen, .int m_keptMany, .ref a_kept])), (a_law, .inl (cI, 22, .inl m_law))] [(ax, .inr (8, [.int m_letterMany, .ref a_text, .int m_readAt, .ref a_told, .ref a_readLaw, .ref a_readNow, .ref a_law, .ref a_now, .ref a_tried, .int m_undoMany, .int m_undoAt, .ref a_undos, .int m_seenMany, .ref a_seenHour, .ref a_seenAt, .ref a_parts, .ref a_partsThen, .int m_keptMany, .ref a_kept])), (a_law, .inl (cI, 22, .inl m_law))] rr := by
  refine CI.of (cc := cX8_dealt) (nL := 5) (ret := (some .int)) (by decide) rfl (Nat.le_of_ble_eq_true rfl) ?_
  intro p e s m args below meth c A hC hP hD hS ls hl
  obtain ⟨hx, hb, hml, hown, hts, hr, hlk, hG, hA⟩ := id hC
  have hown : s.vm.findClass RX8 = some m.cls := hown
  have hK := hG.1
  have hl : lv_has ls 5 [(0, .ref ax), (1, .int i), (2, .int j)] := hl
  have k_f22 := hts (.fieldLink RX8 22 "ParasolHoursModel" "law" "[I") (List.mem_of_getElem? (i := 1) rfl)
  have iX8 : ∀ w ∈ wsX80, w ∈ wsX8_dealt := by decide +kernel
  obtain ⟨Q, hQ⟩ : ∃ Q, Q = MQ below (QI D [(ax, .inr (8, [.int m_letterMany, .ref a_text, .int m_readAt, .ref a_told, .ref a_readLaw, .ref a_readNow, .ref a_law, .ref a_now, .ref a_tried, .int m_undoMany, .int m_undoAt, .ref a_undos, .int m_seenMany, .ref a_seenHour, .ref a_seenAt, .ref a_parts, .ref a_partsThen, .int m_keptMany, .ref a_kept])), (a_law, .inl (cI, 22, .inl m_law))] rr A) args s 0 0 A := ⟨_, rfl⟩
  rw [← hQ]
  unfold f_X8_dealt at hF
  refine lv_iload_n hx hb dX8_dealt_0 rfl (lv_at hl 1 rfl) ?_
  refine lv_istore_n (lv' := [(3, .int i), (0, .ref ax), (1, .int i), (2, .int j)]) hx hb dX8_dealt_1 rfl hl (by decide) rfl (fun ls hl => ?_)
  refine lv_aload_n hx hb dX8_dealt_2 rfl (lv_at hl 1 rfl) ?_
  refine va_get (D := D) (ci := 8) (v := .ref a_law) (C := RX8) (T := TX8) (N := 19) hx hb hts iX8 hown hK hP 0 rfl rfl 6 (by decide) k_f22 (fun _ h9 => h9) rfl dX8_dealt_3 ?_
  refine lv_iconst (v := (2 : Int32)) hx hb dX8_dealt_6 (by decide) ?_
  refine va_iald hx hb hK hP 1 0 rfl rfl (okb_in (by decide)) dX8_dealt_7 ?_
  refine lv_iconst (v := (1 : Int32)) hx hb dX8_dealt_8 (by decide) ?_
  refine lv_isub hx hb dX8_dealt_9 ?_
  refine lv_istore (lv' := [(4, .int ((m_law (2 : Int32).toNatClampNeg) - (1 : Int32))), (3, .int i), (0, .ref ax), (1, .int i), (2, .int j)]) hx hb dX8_dealt_10 hl (by decide) rfl (fun ls hl => ?_)
  have hL12 : ∀ (k12 : Int32 → Int32 → Option Int32), (∀ (v1 : Int32) (v2 : Int32) (H : Heap) (locs : List Loc), va_P D vwCl [(ax, .inr (8, [.int m_letterMany, .ref a_text, .int m_readAt, .ref a_told, .ref a_readLaw, .ref a_readNow, .ref a_law, .ref a_now, .ref a_tried, .int m_undoMany, .int m_undoAt, .ref a_undos, .int m_seenMany, .ref a_seenHour, .ref a_seenAt, .ref a_parts, .ref a_partsThen, .int m_keptMany, .ref a_kept])), (a_law, .inl (cI, 22, .inl m_law))] H → va_D A [(ax, .inr (8, [.int m_letterMany, .ref a_text, .int m_readAt, .ref a_told, .ref a_readLaw, .ref a_readNow, .ref a_law, .ref a_now, .ref a_tried, .int m_undoMany, .int m_undoAt, .ref a_undos, .int m_seenMany, .ref a_seenHour, .ref a_seenAt, .ref a_parts, .ref a_partsThen, .int m_keptMany, .ref a_kept])), (a_law, .inl (cI, 22, .inl m_law))] → va_S A s.heap H locs → ∀ ls : Array Slot, lv_has ls 5 [(3, .int v1), (0, .ref ax)] → k12 v1 v2 = some rr → W p l e rm_X8_dealt s m args below meth c H locs 0 0 Q (F0 m 35 ls [])) → ∀ (nf12 : Nat) (v1 : Int32) (v2 : Int32) (H : Heap) (locs : List Loc), va_P D vwCl [(ax, .inr (8, [.int m_letterMany, .ref a_text, .int m_readAt, .ref a_told, .ref a_readLaw, .ref a_readNow, .ref a_law, .ref a_now, .ref a_tried, .int m_undoMany, .int m_undoAt, .ref a_undos, .int m_seenMany, .ref a_seenHour, .ref a_seenAt, .ref a_parts, .ref a_partsThen, .int m_keptMany, .ref a_kept])), (a_law, .inl (cI, 22, .inl m_law))] H → va_D A [(ax, .inr (8, [.int m_letterMany, .ref a_text, .int m_readAt, .ref a_told, .ref a_readLaw, .ref a_readNow, .ref a_law, .ref a_now, .ref a_tried, .int m_undoMany, .int m_undoAt, .ref a_undos, .int m_seenMany, .ref a_seenHour, .ref a_seenAt, .ref a_parts, .ref a_partsThen, .int m_keptMany, .ref a_kept])), (a_law, .inl (cI, 22, .inl m_law))] → va_S A s.heap H locs → ∀ ls : Array Slot, lv_has ls 5 [(4, .int v2), (3, .int v1), (0, .ref ax), (2, .int j)] → f_X8_dealt_L12 j m_law k12 nf12 v1 v2 = some rr → W p l e rm_X8_dealt s m args below meth c H locs 0 0 Q (F0 m 12 ls []) := by
    intro k12 hk12 nf12
    induction nf12 with
    | zero =>
      intro v1 v2 H locs hP hD hS ls hl hF
      rw [f_X8_dealt_L12_0] at hF
      cases hF
    | succ nf12 ih12 =>
      intro v1 v2 H locs hP hD hS ls hl hF
      rw [f_X8_dealt_L12_s] at hF
      refine lv_iload hx hb dX8_dealt_12 (lv_at hl 0 rfl) ?_
      refine lv_iload_n hx hb dX8_dealt_14 rfl (lv_at hl 3 rfl) ?_
      refine lv_icmp_le (tgt := 35) hx hb dX8_dealt_15 (by decide) (fun c3 => ?_) (fun c3 => ?_)
      · have hF := op_pos c3 hF
        exact hk12 v1 v2 _ _ hP hD hS _ (lv_sub hl [1, 2] rfl) hF
      · have hF := op_neg c3 hF
        refine lv_iload_n hx hb dX8_dealt_18 rfl (lv_at hl 1 rfl) ?_
        refine lv_aload_n hx hb dX8_dealt_19 rfl (lv_at hl 2 rfl) ?_
        refine va_get (D := D) (ci := 8) (v := .ref a_law) (C := RX8) (T := TX8) (N := 19) hx hb hts iX8 hown hK hP 0 rfl rfl 6 (by decide) k_f22 (fun _ h9 => h9) rfl dX8_dealt_20 ?_
        refine lv_iconst (v := (1 : Int32)) hx hb dX8_dealt_23 (by decide) ?_
        refine va_iald hx hb hK hP 1 0 rfl rfl (okb_in (by decide)) dX8_dealt_24 ?_
        refine lv_iconst (v := (1 : Int32)) hx hb dX8_dealt_25 (by decide) ?_
        refine lv_iadd hx hb dX8_dealt_26 ?_
        obtain ⟨n4, hF⟩ := op_nz hF
        refine lv_idiv hx hb dX8_dealt_27 n4 ?_
        refine lv_istore_n (lv' := [(3, .int (v1 / ((m_law (1 : Int32).toNatClampNeg) + (1 : Int32)))), (4, .int v2), (0, .ref ax), (2, .int j)]) hx hb dX8_dealt_28 rfl hl (by decide) rfl (fun ls hl => ?_)
        refine lv_iinc (v := (v2 + (-1 : Int32))) (lv' := [(4, .int (v2 + (-1 : Int32))), (3, .int (v1 / ((m_law (1 : Int32).toNatClampNeg) + (1 : Int32)))), (0, .ref ax), (2, .int j)]) hx hb dX8_dealt_29 hl (k := 1) rfl (by first | rfl | decide) (by decide) rfl (fun ls hl => ?_)
        refine lv_goto (tgt := 12) hx hb dX8_dealt_32 (by decide) ?_
        exact ih12 (v1 / ((m_law (1 : Int32).toNatClampNeg) + (1 : Int32))) (v2 + (-1 : Int32)) _ _ hP hD hS _ (lv_sub hl [0, 1, 2, 3] rfl) hF
  refine hL12 _ (fun v1 v2 H locs hP hD hS ls hl hF => ?_) 20000 i ((m_law (2 : Int32).toNatClampNeg) - (1 : Int32)) _ _ hP hD hS _ (lv_sub hl [0, 1, 2, 4] rfl) hF
  refine lv_iload_n hx hb dX8_dealt_35 rfl (lv_at hl 0 rfl) ?_
  refine lv_aload_n hx hb dX8_dealt_36 rfl (lv_at hl 1 rfl) ?_
  refine va_get (D := D) (ci := 8) (v := .ref a_law) (C := RX8) (T := TX8) (N := 19) hx hb hts iX8 hown hK hP 0 rfl rfl 6 (by decide) k_f22 (fun _ h9 => h9) rfl dX8_dealt_37 ?_
  refine lv_iconst (v := (1 : Int32)) hx hb dX8_dealt_40 (by decide) ?_
  refine va_iald hx hb hK hP 1 0 rfl rfl (okb_in (by decide)) dX8_dealt_41 ?_
  refine lv_iconst (v := (1 : Int32)) hx hb dX8_dealt_42 (by decide) ?_
  refine lv_iadd hx hb dX8_dealt_43 ?_
  obtain ⟨n5, hF⟩ := op_nz hF
  refine lv_irem hx hb dX8_dealt_44 n5 ?_
  cases hF
  rw [hQ]
  exact xri hC hP hS dX8_dealt_45

def f_X8_worksBy_L4 (m_law : (Nat → Int32)) (i : Int32) (m_now : (Nat → Int32)) (k4 : Int32 → Int32 → Option Int32) : Nat → Int32 → Int32 → Option Int32
  | 0, _, _ => none
  | nf4 + 1, v1, v2 => (if (m_law (2 : Int32).toNatClampNeg) ≤ v2 then (k4 v1 v2) else (Option.bind (f_X8_dealt m_law i v2) fun r4 => (if r4 = (m_law (1 : Int32).toNatClampNeg) then (f_X8_worksBy_L4 m_law i m_now k4 nf4 (v1 ||| (0 : Int32)) (v2 + (1 : Int32))) else (Option.bind (f_X8_has (m_now (3 : Int32).toNatClampNeg) v2) fun r7 => (if r7 = 0 then (Option.bind (f_X8_has v1 r4) fun r10 => (if r10 = 0 then (f_X8_worksBy_L4 m_law i m_now k4 nf4 (v1 ||| ((1 : Int32) <<< (r4 &&& 31))) (v2 + (1 : Int32))) else (some (-1 : Int32)))) else (some (-1 : Int32)))))))
theorem f_X8_worksBy_L4_0 (m_law : (Nat → Int32)) (i : Int32) (m_now : (Nat → Int32)) (k4 : Int32 → Int32 → Option Int32) (v1 : Int32) (v2 : Int32) : f_X8_worksBy_L4 m_law i m_now k4 0 v1 v2 = none := rfl
theorem f_X8_worksBy_L4_s (m_law : (Nat → Int32)) (i : Int32) (m_now : (Nat → Int32)) (k4 : Int32 → Int32 → Option Int32) (nf4 : Nat) (v1 : Int32) (v2 : Int32) : f_X8_worksBy_L4 m_law i m_now k4 (nf4 + 1) v1 v2 = (if (m_law (2 : Int32).toNatClampNeg) ≤ v2 then (k4 v1 v2) else (Option.bind (f_X8_dealt m_law i v2) fun r4 => (if r4 = (m_law (1 : Int32).toNatClampNeg) then (f_X8_worksBy_L4 m_law i m_now k4 nf4 (v1 ||| (0 : Int32)) (v2 + (1 : Int32))) else (Option.bind (f_X8_has (m_now (3 : Int32).toNatClampNeg) v2) fun r7 => (if r7 = 0 then (Option.bind (f_X8_has v1 r4) fun r10 => (if r10 = 0 then (f_X8_worksBy_L4 m_law i m_now k4 nf4 (v1 ||| ((1 : Int32) <<< (r4 &&& 31))) (v2 + (1 : Int32))) else (some (-1 : Int32)))) else (some (-1 : Int32))))))) := rfl

def f_X8_worksBy_L113 (m_law : (Nat → Int32)) (i : Int32) (m_now : (Nat → Int32)) (v14 : Int32) (k113 : Int32 → Int32 → Option Int32) : Nat → Int32 → Int32 → Option Int32
  | 0, _, _ => none
  | nf113 + 1, v16, v17 => (if (m_law (2 : Int32).toNatClampNeg) ≤ v17 then (k113 v16 v17) else (Option.bind (f_X8_dealt m_law i v17) fun r19 => (Option.bind (f_X8_has (m_now (3 : Int32).toNatClampNeg) v17) fun r21 => (if r21 = 0 then (if okb ((16 : Int32) + v17) 26 = true then (if okb ((10 : Int32) + v14) 22 = true then (if (m_now ((16 : Int32) + v17).toNatClampNeg) = (m_law ((10 : Int32) + v14).toNatClampNeg) then (if v16 = 0 then (if r19 = (m_law (1 : Int32).toNatClampNeg) then (Option.bind (f_X8_clock m_now (m_now ((16 : Int32) + v17).toNatClampNeg) (-4 : Int32)) fun r35 => (if okb ((16 : Int32) + v14) 22 = true then (if r35 = (m_law ((16 : Int32) + v14).toNatClampNeg) then (f_X8_worksBy_L113 m_law i m_now v14 k113 nf113 (1 : Int32) (v17 + (1 : Int32))) else (f_X8_worksBy_L113 m_law i m_now v14 k113 nf113 (0 : Int32) (v17 + (1 : Int32)))) else none)) else (Option.bind (f_X8_clock m_now (m_now ((16 : Int32) + v17).toNatClampNeg) r19) fun r31 => (if okb ((16 : Int32) + v14) 22 = true then (if r31 = (m_law ((16 : Int32) + v14).toNatClampNeg) then (f_X8_worksBy_L113 m_law i m_now v14 k113 nf113 (1 : Int32) (v17 + (1 : Int32))) else (f_X8_worksBy_L113 m_law i m_now v14 k113 nf113 (0 : Int32) (v17 + (1 : Int32)))) else none))) else (f_X8_worksBy_L113 m_law i m_now v14 k113 nf113 (1 : Int32) (v17 + (1 : Int32)))) else (if v16 = 0 then (f_X8_worksBy_L113 m_law i m_now v14 k113 nf113 (0 : Int32) (v17 + (1 : Int32))) else (f_X8_worksBy_L113 m_law i m_now v14 k113 nf113 (1 : Int32) (v17 + (1 : Int32))))) else none) else none) else (if v16 = 0 then (f_X8_worksBy_L113 m_law i m_now v14 k113 nf113 (0 : Int32) (v17 + (1 : Int32))) else (f_X8_worksBy_L113 m_law i m_now v14 k113 nf113 (1 : Int32) (v17 + (1 : Int32))))))))
theorem f_X8_worksBy_L113_0 (m_law : (Nat → Int32)) (i : Int32) (m_now : (Nat → Int32)) (v14 : Int32) (k113 : Int32 → Int32 → Option Int32) (v16 : Int32) (v17 : Int32) : f_X8_worksBy_L113 m_law i m_now v14 k113 0 v16 v17 = none := rfl
theorem f_X8_worksBy_L113_s (m_law : (Nat → Int32)) (i : Int32) (m_now : (Nat → Int32)) (v14 : Int32) (k113 : Int32 → Int32 → Option Int32) (nf113 : Nat) (v16 : Int32) (v17 : Int32) : f_X8_worksBy_L113 m_law i m_now v14 k113 (nf113 + 1) v16 v17 = (if (m_law (2 : Int32).toNatClampNeg) ≤ v17 then (k113 v16 v17) else (Option.bind (f_X8_dealt m_law i v17) fun r19 => (Option.bind (f_X8_has (m_now (3 : Int32).toNatClampNeg) v17) fun r21 => (if r21 = 0 then (if okb ((16 : Int32) + v17) 26 = true then (if okb ((10 : Int32) + v14) 22 = true then (if (m_now ((16 : Int32) + v17).toNatClampNeg) = (m_law ((10 : Int32) + v14).toNatClampNeg) then (if v16 = 0 then (if r19 = (m_law (1 : Int32).toNatClampNeg) then (Option.bind (f_X8_clock m_now (m_now ((16 : Int32) + v17).toNatClampNeg) (-4 : Int32)) fun r35 => (if okb ((16 : Int32) + v14) 22 = true then (if r35 = (m_law ((16 : Int32) + v14).toNatClampNeg) then (f_X8_worksBy_L113 m_law i m_now v14 k113 nf113 (1 : Int32) (v17 + (1 : Int32))) else (f_X8_worksBy_L113 m_law i m_now v14 k113 nf113 (0 : Int32) (v17 + (1 : Int32)))) else none)) else (Option.bind (f_X8_clock m_now (m_now ((16 : Int32) + v17).toNatClampNeg) r19) fun r31 => (if okb ((16 : Int32) + v14) 22 = true then (if r31 = (m_law ((16 : Int32) + v14).toNatClampNeg) then (f_X8_worksBy_L113 m_law i m_now v14 k113 nf113 (1 : Int32) (v17 + (1 : Int32))) else (f_X8_worksBy_L113 m_law i m_now v14 k113 nf113 (0 : Int32) (v17 + (1 : Int32)))) else none))) else (f_X8_worksBy_L113 m_law i m_now v14 k113 nf113 (1 : Int32) (v17 + (1 : Int32)))) else (if v16 = 0 then (f_X8_worksBy_L113 m_law i m_now v14 k113 nf113 (0 : Int32) (v17 + (1 : Int32))) else (f_X8_worksBy_L113 m_law i m_now v14 k113 nf113 (1 : Int32) (v17 + (1 : Int32))))) else none) else none) else (if v16 = 0 then (f_X8_worksBy_L113 m_law i m_now v14 k113 nf113 (0 : Int32) (v17 + (1 : Int32))) else (f_X8_worksBy_L113 m_law i m_now v14 k113 nf113 (1 : Int32) (v17 + (1 : Int32)))))))) := rfl

def f_X8_worksBy_L96 (m_law : (Nat → Int32)) (i : Int32) (m_now : (Nat → Int32)) (k96 : Int32 → Int32 → Option Int32) : Nat → Int32 → Int32 → Option Int32
  | 0, _, _ => none
  | nf96 + 1, v13, v14 => (if (m_law (3 : Int32).toNatClampNeg) ≤ v14 then (k96 v13 v14) else (f_X8_worksBy_L113 m_law i m_now v14 (fun (v16 : Int32) (v17 : Int32) => (if v16 = 0 then (f_X8_worksBy_L96 m_law i m_now k96 nf96 (v13 + (0 : Int32)) (v14 + (1 : Int32))) else (Option.bind (f_X8_has (m_now (2 : Int32).toNatClampNeg) v14) fun r40 => (if r40 = 0 then (f_X8_worksBy_L96 m_law i m_now k96 nf96 (v13 + (1 : Int32)) (v14 + (1 : Int32))) else (f_X8_worksBy_L96 m_law i m_now k96 nf96 (v13 + (0 : Int32)) (v14 + (1 : Int32))))))) 20000 (0 : Int32) (0 : Int32)))
theorem f_X8_worksBy_L96_0 (m_law : (Nat → Int32)) (i : Int32) (m_now : (Nat → Int32)) (k96 : Int32 → Int32 → Option Int32) (v13 : Int32) (v14 : Int32) : f_X8_worksBy_L96 m_law i m_now k96 0 v13 v14 = none := rfl
theorem f_X8_worksBy_L96_s (m_law : (Nat → Int32)) (i : Int32) (m_now : (Nat → Int32)) (k96 : Int32 → Int32 → Option Int32) (nf96 : Nat) (v13 : Int32) (v14 : Int32) : f_X8_worksBy_L96 m_law i m_now k96 (nf96 + 1) v13 v14 = (if (m_law (3 : Int32).toNatClampNeg) ≤ v14 then (k96 v13 v14) else (f_X8_worksBy_L113 m_law i m_now v14 (fun (v16 : Int32) (v17 : Int32) => (if v16 = 0 then (f_X8_worksBy_L96 m_law i m_now k96 nf96 (v13 + (0 : Int32)) (v14 + (1 : Int32))) else (Option.bind (f_X8_has (m_now (2 : Int32).toNatClampNeg) v14) fun r40 => (if r40 = 0 then (f_X8_worksBy_L96 m_law i m_now k96 nf96 (v13 + (1 : Int32)) (v14 + (1 : Int32))) else (f_X8_worksBy_L96 m_law i m_now k96 nf96 (v13 + (0 : Int32)) (v14 + (1 : Int32))))))) 20000 (0 : Int32) (0 : Int32))) := rfl

def f_X8_worksBy (m_law : (Nat → Int32)) (m_now : (Nat → Int32)) (i : Int32) : Option Int32 := (f_X8_worksBy_L4 m_law i m_now (fun (v1 : Int32) (v2 : Int32) => (f_X8_worksBy_L96 m_law i m_now (fun (v13 : Int32) (v14 : Int32) => (some v13)) 20000 (0 : Int32) (0 : Int32))) 20000 (0 : Int32) (0 : Int32))

def rm_X8_worksBy : Room := { frames := 1, cells := 0, slots := 0, locals := 24 }

theorem pd_X8_worksBy : yX8_worksBy.cls ≠ "java/lang/invoke/MethodHandle" ∧ yX8_worksBy.cls ≠ "java/lang/invoke/VarHandle" ∧ (parseMethodDescriptor yX8_worksBy.desc).map (fun d => d.parameters.length) = some 1 := by decide +kernel

set_option maxHeartbeats 4000000 in
set_option maxRecDepth 100000 in
theorem c_X8_worksBy (l : Launch) (D : va_G) (cI cC cM : ClassId) (ax a_law a_now a_text a_told a_readLaw a_readNow a_tried a_undos a_seenHour a_seenAt a_parts a_partsThen a_kept : Nat) (m_letterMany : Int32) (m_readAt : Int32) (m_undoMany : Int32) (m_undoAt : Int32) (m_seenMany : Int32) (m_keptMany : Int32) (m_law : (Nat → Int32)) (m_now : (Nat → Int32)) (i : Int32) (rr : Int32) (hF : f_X8_worksBy m_law m_now i = some rr) : CI l D cI cC cM yX8_worksBy wsX8_worksBy rm_X8_worksBy [.ref ax, .int i] [(ax, .inr (8, [.int m_letterMany, .ref a_text, .int m_readAt, .ref a_told, .ref a_readLaw, .ref a_readNow, .ref a_law, .ref a_now, .ref a_tried, .int m_undoMany, .int m_undoAt, .ref a_undos, .int m_seenMany, .ref a_seenHour, .ref a_seenAt, .ref a_parts, .ref a_partsThen, .int m_keptMany, .ref a_kept])), (a_law, .inl (cI, 22, .inl m_law)), (a_now, .inl (cI, 26, .inl m_now))] [(ax, .inr (8, [.int m_letterMany, .ref a_text, .int m_readAt, .ref a_told, .ref a_readLaw, .ref a_readNow, .ref a_law, .ref a_now, .ref a_tried, .int m_undoMany, .int m_undoAt, .ref a_undos, .int m_seenMany, .ref a_seenHour, .ref a_seenAt, .ref a_parts, .ref a_partsThen, .int m_keptMany, .ref a_kept])), (a_law, .inl (cI, 22, .inl m_law)), (a_now, .inl (cI, 26, .inl m_now))] rr := by
  refine CI.of (cc := cX8_worksBy) (nL := 9) (ret := (some .int)) (by decide) rfl (Nat.le_of_ble_eq_true rfl) ?_
  intro p e s m args below meth c A hC hP hD hS ls hl
  obtain ⟨hx, hb, hml, hown, hts, hr, hlk, hG, hA⟩ := id hC
  have hown : s.vm.findClass RX8 = some m.cls := hown
  have hK := hG.1
  have hl : lv_has ls 9 [(0, .ref ax), (1, .int i)] := hl
  have k_f22 := hts (.fieldLink RX8 22 "ParasolHoursModel" "law" "[I") (List.mem_of_getElem? (i := 1) rfl)
  have k_f25 := hts (.fieldLink RX8 25 "ParasolHoursModel" "now" "[I") (List.mem_of_getElem? (i := 2) rfl)
  have iX8 : ∀ w ∈ wsX80, w ∈ wsX8_worksBy := by decide +kernel
  obtain ⟨Q, hQ⟩ : ∃ Q, Q = MQ below (QI D [(ax, .inr (8, [.int m_letterMany, .ref a_text, .int m_readAt, .ref a_told, .ref a_readLaw, .ref a_readNow, .ref a_law, .ref a_now, .ref a_tried, .int m_undoMany, .int m_undoAt, .ref a_undos, .int m_seenMany, .ref a_seenHour, .ref a_seenAt, .ref a_parts, .ref a_partsThen, .int m_keptMany, .ref a_kept])), (a_law, .inl (cI, 22, .inl m_law)), (a_now, .inl (cI, 26, .inl m_now))] rr A) args s 0 0 A := ⟨_, rfl⟩
  rw [← hQ]
  unfold f_X8_worksBy at hF
  refine lv_iconst (v := (0 : Int32)) hx hb dX8_worksBy_0 (by decide) ?_
  refine lv_istore_n (lv' := [(2, .int (0 : Int32)), (0, .ref ax), (1, .int i)]) hx hb dX8_worksBy_1 rfl hl (by decide) rfl (fun ls hl => ?_)
  refine lv_iconst (v := (0 : Int32)) hx hb dX8_worksBy_2 (by decide) ?_
  refine lv_istore_n (lv' := [(3, .int (0 : Int32)), (2, .int (0 : Int32)), (0, .ref ax), (1, .int i)]) hx hb dX8_worksBy_3 rfl hl (by decide) rfl (fun ls hl => ?_)
  have hL4 : ∀ (k4 : Int32 → Int32 → Option Int32), (∀ (v1 : Int32) (v2 : Int32) (H : Heap) (locs : List Loc), va_P D vwCl [(ax, .inr (8, [.int m_letterMany, .ref a_text, .int m_readAt, .ref a_told, .ref a_readLaw, .ref a_readNow, .ref a_law, .ref a_now, .ref a_tried, .int m_undoMany, .int m_undoAt, .ref a_undos, .int m_seenMany, .ref a_seenHour, .ref a_seenAt, .ref a_parts, .ref a_partsThen, .int m_keptMany, .ref a_kept])), (a_law, .inl (cI, 22, .inl m_law)), (a_now, .inl (cI, 26, .inl m_now))] H → va_D A [(ax, .inr (8, [.int m_letterMany, .ref a_text, .int m_readAt, .ref a_told, .ref a_readLaw, .ref a_readNow, .ref a_law, .ref a_now, .ref a_tried, .int m_undoMany, .int m_undoAt, .ref a_undos, .int m_seenMany, .ref a_seenHour, .ref a_seenAt, .ref a_parts, .ref a_partsThen, .int m_keptMany, .ref a_kept])), (a_law, .inl (cI, 22, .inl m_law)), (a_now, .inl (cI, 26, .inl m_now))] → va_S A s.heap H locs → ∀ ls : Array Slot, lv_has ls 9 [(0, .ref ax), (1, .int i)] → k4 v1 v2 = some rr → W p l e rm_X8_worksBy s m args below meth c H locs 0 0 Q (F0 m 91 ls [])) → ∀ (nf4 : Nat) (v1 : Int32) (v2 : Int32) (H : Heap) (locs : List Loc), va_P D vwCl [(ax, .inr (8, [.int m_letterMany, .ref a_text, .int m_readAt, .ref a_told, .ref a_readLaw, .ref a_readNow, .ref a_law, .ref a_now, .ref a_tried, .int m_undoMany, .int m_undoAt, .ref a_undos, .int m_seenMany, .ref a_seenHour, .ref a_seenAt, .ref a_parts, .ref a_partsThen, .int m_keptMany, .ref a_kept])), (a_law, .inl (cI, 22, .inl m_law)), (a_now, .inl (cI, 26, .inl m_now))] H → va_D A [(ax, .inr (8, [.int m_letterMany, .ref a_text, .int m_readAt, .ref a_told, .ref a_readLaw, .ref a_readNow, .ref a_law, .ref a_now, .ref a_tried, .int m_undoMany, .int m_undoAt, .ref a_undos, .int m_seenMany, .ref a_seenHour, .ref a_seenAt, .ref a_parts, .ref a_partsThen, .int m_keptMany, .ref a_kept])), (a_law, .inl (cI, 22, .inl m_law)), (a_now, .inl (cI, 26, .inl m_now))] → va_S A s.heap H locs → ∀ ls : Array Slot, lv_has ls 9 [(3, .int v2), (2, .int v1), (0, .ref ax), (1, .int i)] → f_X8_worksBy_L4 m_law i m_now k4 nf4 v1 v2 = some rr → W p l e rm_X8_worksBy s m args below meth c H locs 0 0 Q (F0 m 4 ls []) := by
    intro k4 hk4 nf4
    induction nf4 with
    | zero =>
      intro v1 v2 H locs hP hD hS ls hl hF
      rw [f_X8_worksBy_L4_0] at hF
      cases hF
    | succ nf4 ih4 =>
      intro v1 v2 H locs hP hD hS ls hl hF
      rw [f_X8_worksBy_L4_s] at hF
      refine lv_iload_n hx hb dX8_worksBy_4 rfl (lv_at hl 0 rfl) ?_
      refine lv_aload_n hx hb dX8_worksBy_5 rfl (lv_at hl 2 rfl) ?_
      refine va_get (D := D) (ci := 8) (v := .ref a_law) (C := RX8) (T := TX8) (N := 19) hx hb hts iX8 hown hK hP 0 rfl rfl 6 (by decide) k_f22 (fun _ h9 => h9) rfl dX8_worksBy_6 ?_
      refine lv_iconst (v := (2 : Int32)) hx hb dX8_worksBy_9 (by decide) ?_
      refine va_iald hx hb hK hP 1 0 rfl rfl (okb_in (by decide)) dX8_worksBy_10 ?_
      refine lv_icmp_ge (tgt := 91) hx hb dX8_worksBy_11 (by decide) (fun c3 => ?_) (fun c3 => ?_)
      · have hF := op_pos c3 hF
        exact hk4 v1 v2 _ _ hP hD hS _ (lv_sub hl [2, 3] rfl) hF
      · have hF := op_neg c3 hF
        refine lv_aload_n hx hb dX8_worksBy_14 rfl (lv_at hl 2 rfl) ?_
        refine lv_iload_n hx hb dX8_worksBy_15 rfl (lv_at hl 3 rfl) ?_
        refine lv_iload_n hx hb dX8_worksBy_16 rfl (lv_at hl 0 rfl) ?_
        obtain ⟨r4, hb5, hF⟩ := op_bind hF
        refine xVr (As := [.int i, .int v2]) (rest := []) hC hP hD hS [0, 1] (c_X8_dealt l D cI cC cM ax a_law a_text a_told a_readLaw a_readNow a_now a_tried a_undos a_seenHour a_seenAt a_parts a_partsThen a_kept m_letterMany m_readAt m_undoMany m_undoAt m_seenMany m_keptMany m_law i v2 r4 hb5) (cwV 2 hts gX8_worksBy_X8_dealt rfl rfl rfl ⟨rfl, pd_X8_dealt⟩ ⟨Nat.le_of_ble_eq_true rfl, Nat.le_of_ble_eq_true rfl⟩) rfl rfl 0 8 rfl rfl rfl rfl hl.1 rfl (Nat.le_of_ble_eq_true rfl) dX8_worksBy_17 ⟨Nat.zero_le _, Nat.zero_le _⟩ (fun H locs hP hS => ?_)
        refine lv_istore (lv' := [(4, .int r4), (3, .int v2), (2, .int v1), (0, .ref ax), (1, .int i)]) hx hb dX8_worksBy_20 hl (by decide) rfl (fun ls hl => ?_)
        refine lv_iload hx hb dX8_worksBy_22 (lv_at hl 0 rfl) ?_
        refine lv_aload_n hx hb dX8_worksBy_24 rfl (lv_at hl 3 rfl) ?_
        refine va_get (D := D) (ci := 8) (v := .ref a_law) (C := RX8) (T := TX8) (N := 19) hx hb hts iX8 hown hK hP 0 rfl rfl 6 (by decide) k_f22 (fun _ h9 => h9) rfl dX8_worksBy_25 ?_
        refine lv_iconst (v := (1 : Int32)) hx hb dX8_worksBy_28 (by decide) ?_
        refine va_iald hx hb hK hP 1 0 rfl rfl (okb_in (by decide)) dX8_worksBy_29 ?_
        refine lv_icmp_ne (tgt := 37) hx hb dX8_worksBy_30 (by decide) (fun c6 => ?_) (fun c6 => ?_)
        · have hF := op_neg c6 hF
          refine lv_iconst (v := (0 : Int32)) hx hb dX8_worksBy_37 (by decide) ?_
          refine lv_istore (lv' := [(5, .int (0 : Int32)), (4, .int r4), (3, .int v2), (2, .int v1), (0, .ref ax), (1, .int i)]) hx hb dX8_worksBy_38 hl (by decide) rfl (fun ls hl => ?_)
          refine lv_iload hx hb dX8_worksBy_40 (lv_at hl 0 rfl) ?_
          refine lv_if_ne (tgt := 69) hx hb dX8_worksBy_42 (by decide) (fun c => absurd (by decide) c) (fun _ => ?_)
          refine lv_aload_n hx hb dX8_worksBy_45 rfl (lv_at hl 4 rfl) ?_
          refine va_get (D := D) (ci := 8) (v := .ref a_now) (C := RX8) (T := TX8) (N := 19) hx hb hts iX8 hown hK hP 0 rfl rfl 7 (by decide) k_f25 (fun _ h9 => h9) rfl dX8_worksBy_46 ?_
          refine lv_iconst (v := (3 : Int32)) hx hb dX8_worksBy_49 (by decide) ?_
          refine va_iald hx hb hK hP 2 0 rfl rfl (okb_in (by decide)) dX8_worksBy_50 ?_
          refine lv_iload_n hx hb dX8_worksBy_51 rfl (lv_at hl 2 rfl) ?_
          obtain ⟨r7, hb8, hF⟩ := op_bind hF
          refine xSr (As := [.int (m_now (3 : Int32).toNatClampNeg), .int v2]) (rest := []) hC hP hD hS [] (c_X8_has l D cI cC cM (m_now (3 : Int32).toNatClampNeg) v2 r7 hb8) (va_cwS 2 hts gX8_worksBy_X8_has rfl rfl rfl pd_X8_has ⟨Nat.le_of_ble_eq_true rfl, Nat.le_of_ble_eq_true rfl⟩) rfl rfl rfl hl.1 rfl (Nat.le_of_ble_eq_true rfl) dX8_worksBy_52 ⟨Nat.zero_le _, Nat.zero_le _⟩ (fun H locs hP hS => ?_)
          refine lv_if_ne (tgt := 67) hx hb dX8_worksBy_55 (by decide) (fun c9 => ?_) (fun c9 => ?_)
          · have hF := op_neg c9 hF
            refine lv_iconst (v := (-1 : Int32)) hx hb dX8_worksBy_67 (by decide) ?_
            cases hF
            rw [hQ]
            exact xri hC hP hS dX8_worksBy_68
          · have hF := op_pos c9 hF
            refine lv_iload_n hx hb dX8_worksBy_58 rfl (lv_at hl 3 rfl) ?_
            refine lv_iload hx hb dX8_worksBy_59 (lv_at hl 1 rfl) ?_
            obtain ⟨r10, hb11, hF⟩ := op_bind hF
            refine xSr (As := [.int v1, .int r4]) (rest := []) hC hP hD hS [] (c_X8_has l D cI cC cM v1 r4 r10 hb11) (va_cwS 2 hts gX8_worksBy_X8_has rfl rfl rfl pd_X8_has ⟨Nat.le_of_ble_eq_true rfl, Nat.le_of_ble_eq_true rfl⟩) rfl rfl rfl hl.1 rfl (Nat.le_of_ble_eq_true rfl) dX8_worksBy_61 ⟨Nat.zero_le _, Nat.zero_le _⟩ (fun H locs hP hS => ?_)
            refine lv_if_eq (tgt := 69) hx hb dX8_worksBy_64 (by decide) (fun c12 => ?_) (fun c12 => ?_)
            · have hF := op_pos c12 hF
              refine lv_iload_n hx hb dX8_worksBy_69 rfl (lv_at hl 3 rfl) ?_
              refine lv_iload hx hb dX8_worksBy_70 (lv_at hl 0 rfl) ?_
              refine lv_if_eq (tgt := 79) hx hb dX8_worksBy_72 (by decide) (fun _ => ?_) (fun c => absurd (by decide) c)
              refine lv_iconst (v := (1 : Int32)) hx hb dX8_worksBy_79 (by decide) ?_
              refine lv_iload hx hb dX8_worksBy_80 (lv_at hl 1 rfl) ?_
              refine lv_ishl hx hb dX8_worksBy_82 ?_
              refine lv_ior hx hb dX8_worksBy_83 ?_
              refine lv_istore_n (lv' := [(2, .int (v1 ||| ((1 : Int32) <<< (r4 &&& 31)))), (5, .int (0 : Int32)), (4, .int r4), (3, .int v2), (0, .ref ax), (1, .int i)]) hx hb dX8_worksBy_84 rfl hl (by decide) rfl (fun ls hl => ?_)
              refine lv_iinc (v := (v2 + (1 : Int32))) (lv' := [(3, .int (v2 + (1 : Int32))), (2, .int (v1 ||| ((1 : Int32) <<< (r4 &&& 31)))), (5, .int (0 : Int32)), (4, .int r4), (0, .ref ax), (1, .int i)]) hx hb dX8_worksBy_85 hl (k := 3) rfl (by first | rfl | decide) (by decide) rfl (fun ls hl => ?_)
              refine lv_goto (tgt := 4) hx hb dX8_worksBy_88 (by decide) ?_
              exact ih4 (v1 ||| ((1 : Int32) <<< (r4 &&& 31))) (v2 + (1 : Int32)) _ _ hP hD hS _ (lv_sub hl [0, 1, 4, 5] rfl) hF
            · have hF := op_neg c12 hF
              refine lv_iconst (v := (-1 : Int32)) hx hb dX8_worksBy_67 (by decide) ?_
              cases hF
              rw [hQ]
              exact xri hC hP hS dX8_worksBy_68
        · have hF := op_pos c6 hF
          refine lv_iconst (v := (1 : Int32)) hx hb dX8_worksBy_33 (by decide) ?_
          refine lv_goto (tgt := 38) hx hb dX8_worksBy_34 (by decide) ?_
          refine lv_istore (lv' := [(5, .int (1 : Int32)), (4, .int r4), (3, .int v2), (2, .int v1), (0, .ref ax), (1, .int i)]) hx hb dX8_worksBy_38 hl (by decide) rfl (fun ls hl => ?_)
          refine lv_iload hx hb dX8_worksBy_40 (lv_at hl 0 rfl) ?_
          refine lv_if_ne (tgt := 69) hx hb dX8_worksBy_42 (by decide) (fun _ => ?_) (fun c => absurd c (by decide))
          refine lv_iload_n hx hb dX8_worksBy_69 rfl (lv_at hl 3 rfl) ?_
          refine lv_iload hx hb dX8_worksBy_70 (lv_at hl 0 rfl) ?_
          refine lv_if_eq (tgt := 79) hx hb dX8_worksBy_72 (by decide) (fun c => absurd c (by decide)) (fun _ => ?_)
          refine lv_iconst (v := (0 : Int32)) hx hb dX8_worksBy_75 (by decide) ?_
          refine lv_goto (tgt := 83) hx hb dX8_worksBy_76 (by decide) ?_
          refine lv_ior hx hb dX8_worksBy_83 ?_
          refine lv_istore_n (lv' := [(2, .int (v1 ||| (0 : Int32))), (5, .int (1 : Int32)), (4, .int r4), (3, .int v2), (0, .ref ax), (1, .int i)]) hx hb dX8_worksBy_84 rfl hl (by decide) rfl (fun ls hl => ?_)
          refine lv_iinc (v := (v2 + (1 : Int32))) (lv' := [(3, .int (v2 + (1 : Int32))), (2, .int (v1 ||| (0 : Int32))), (5, .int (1 : Int32)), (4, .int r4), (0, .ref ax), (1, .int i)]) hx hb dX8_worksBy_85 hl (k := 3) rfl (by first | rfl | decide) (by decide) rfl (fun ls hl => ?_)
          refine lv_goto (tgt := 4) hx hb dX8_worksBy_88 (by decide) ?_
          exact ih4 (v1 ||| (0 : Int32)) (v2 + (1 : Int32)) _ _ hP hD hS _ (lv_sub hl [0, 1, 4, 5] rfl) hF
  refine hL4 _ (fun v1 v2 H locs hP hD hS ls hl hF => ?_) 20000 (0 : Int32) (0 : Int32) _ _ hP hD hS _ (lv_sub hl [0, 1, 2, 3] rfl) hF
  refine lv_iconst (v := (0 : Int32)) hx hb dX8_worksBy_91 (by decide) ?_
  refine lv_istore_n (lv' := [(3, .int (0 : Int32)), (0, .ref ax), (1, .int i)]) hx hb dX8_worksBy_92 rfl hl (by decide) rfl (fun ls hl => ?_)
  refine lv_iconst (v := (0 : Int32)) hx hb dX8_worksBy_93 (by decide) ?_
  refine lv_istore (lv' := [(4, .int (0 : Int32)), (3, .int (0 : Int32)), (0, .ref ax), (1, .int i)]) hx hb dX8_worksBy_94 hl (by decide) rfl (fun ls hl => ?_)
  have hL96 : ∀ (k96 : Int32 → Int32 → Option Int32), (∀ (v13 : Int32) (v14 : Int32) (H : Heap) (locs : List Loc), va_P D vwCl [(ax, .inr (8, [.int m_letterMany, .ref a_text, .int m_readAt, .ref a_told, .ref a_readLaw, .ref a_readNow, .ref a_law, .ref a_now, .ref a_tried, .int m_undoMany, .int m_undoAt, .ref a_undos, .int m_seenMany, .ref a_seenHour, .ref a_seenAt, .ref a_parts, .ref a_partsThen, .int m_keptMany, .ref a_kept])), (a_law, .inl (cI, 22, .inl m_law)), (a_now, .inl (cI, 26, .inl m_now))] H → va_D A [(ax, .inr (8, [.int m_letterMany, .ref a_text, .int m_readAt, .ref a_told, .ref a_readLaw, .ref a_readNow, .ref a_law, .ref a_now, .ref a_tried, .int m_undoMany, .int m_undoAt, .ref a_undos, .int m_seenMany, .ref a_seenHour, .ref a_seenAt, .ref a_parts, .ref a_partsThen, .int m_keptMany, .ref a_kept])), (a_law, .inl (cI, 22, .inl m_law)), (a_now, .inl (cI, 26, .inl m_now))] → va_S A s.heap H locs → ∀ ls : Array Slot, lv_has ls 9 [(3, .int v13)] → k96 v13 v14 = some rr → W p l e rm_X8_worksBy s m args below meth c H locs 0 0 Q (F0 m 281 ls [])) → ∀ (nf96 : Nat) (v13 : Int32) (v14 : Int32) (H : Heap) (locs : List Loc), va_P D vwCl [(ax, .inr (8, [.int m_letterMany, .ref a_text, .int m_readAt, .ref a_told, .ref a_readLaw, .ref a_readNow, .ref a_law, .ref a_now, .ref a_tried, .int m_undoMany, .int m_undoAt, .ref a_undos, .int m_seenMany, .ref a_seenHour, .ref a_seenAt, .ref a_parts, .ref a_partsThen, .int m_keptMany, .ref a_kept])), (a_law, .inl (cI, 22, .inl m_law)), (a_now, .inl (cI, 26, .inl m_now))] H → va_D A [(ax, .inr (8, [.int m_letterMany, .ref a_text, .int m_readAt, .ref a_told, .ref a_readLaw, .ref a_readNow, .ref a_law, .ref a_now, .ref a_tried, .int m_undoMany, .int m_undoAt, .ref a_undos, .int m_seenMany, .ref a_seenHour, .ref a_seenAt, .ref a_parts, .ref a_partsThen, .int m_keptMany, .ref a_kept])), (a_law, .inl (cI, 22, .inl m_law)), (a_now, .inl (cI, 26, .inl m_now))] → va_S A s.heap H locs → ∀ ls : Array Slot, lv_has ls 9 [(4, .int v14), (3, .int v13), (0, .ref ax), (1, .int i)] → f_X8_worksBy_L96 m_law i m_now k96 nf96 v13 v14 = some rr → W p l e rm_X8_worksBy s m args below meth c H locs 0 0 Q (F0 m 96 ls []) := by
    intro k96 hk96 nf96
    induction nf96 with
    | zero =>
      intro v13 v14 H locs hP hD hS ls hl hF
      rw [f_X8_worksBy_L96_0] at hF
      cases hF
    | succ nf96 ih96 =>
      intro v13 v14 H locs hP hD hS ls hl hF
      rw [f_X8_worksBy_L96_s] at hF
      refine lv_iload hx hb dX8_worksBy_96 (lv_at hl 0 rfl) ?_
      refine lv_aload_n hx hb dX8_worksBy_98 rfl (lv_at hl 2 rfl) ?_
      refine va_get (D := D) (ci := 8) (v := .ref a_law) (C := RX8) (T := TX8) (N := 19) hx hb hts iX8 hown hK hP 0 rfl rfl 6 (by decide) k_f22 (fun _ h9 => h9) rfl dX8_worksBy_99 ?_
      refine lv_iconst (v := (3 : Int32)) hx hb dX8_worksBy_102 (by decide) ?_
      refine va_iald hx hb hK hP 1 0 rfl rfl (okb_in (by decide)) dX8_worksBy_103 ?_
      refine lv_icmp_ge (tgt := 281) hx hb dX8_worksBy_104 (by decide) (fun c15 => ?_) (fun c15 => ?_)
      · have hF := op_pos c15 hF
        exact hk96 v13 v14 _ _ hP hD hS _ (lv_sub hl [1] rfl) hF
      · have hF := op_neg c15 hF
        refine lv_iconst (v := (0 : Int32)) hx hb dX8_worksBy_107 (by decide) ?_
        refine lv_istore (lv' := [(5, .int (0 : Int32)), (4, .int v14), (3, .int v13), (0, .ref ax), (1, .int i)]) hx hb dX8_worksBy_108 hl (by decide) rfl (fun ls hl => ?_)
        refine lv_iconst (v := (0 : Int32)) hx hb dX8_worksBy_110 (by decide) ?_
        refine lv_istore (lv' := [(6, .int (0 : Int32)), (5, .int (0 : Int32)), (4, .int v14), (3, .int v13), (0, .ref ax), (1, .int i)]) hx hb dX8_worksBy_111 hl (by decide) rfl (fun ls hl => ?_)
        have hL113 : ∀ (k113 : Int32 → Int32 → Option Int32), (∀ (v16 : Int32) (v17 : Int32) (H : Heap) (locs : List Loc), va_P D vwCl [(ax, .inr (8, [.int m_letterMany, .ref a_text, .int m_readAt, .ref a_told, .ref a_readLaw, .ref a_readNow, .ref a_law, .ref a_now, .ref a_tried, .int m_undoMany, .int m_undoAt, .ref a_undos, .int m_seenMany, .ref a_seenHour, .ref a_seenAt, .ref a_parts, .ref a_partsThen, .int m_keptMany, .ref a_kept])), (a_law, .inl (cI, 22, .inl m_law)), (a_now, .inl (cI, 26, .inl m_now))] H → va_D A [(ax, .inr (8, [.int m_letterMany, .ref a_text, .int m_readAt, .ref a_told, .ref a_readLaw, .ref a_readNow, .ref a_law, .ref a_now, .ref a_tried, .int m_undoMany, .int m_undoAt, .ref a_undos, .int m_seenMany, .ref a_seenHour, .ref a_seenAt, .ref a_parts, .ref a_partsThen, .int m_keptMany, .ref a_kept])), (a_law, .inl (cI, 22, .inl m_law)), (a_now, .inl (cI, 26, .inl m_now))] → va_S A s.heap H locs → ∀ ls : Array Slot, lv_has ls 9 [(5, .int v16), (4, .int v14), (3, .int v13), (0, .ref ax), (1, .int i)] → k113 v16 v17 = some rr → W p l e rm_X8_worksBy s m args below meth c H locs 0 0 Q (F0 m 248 ls [])) → ∀ (nf113 : Nat) (v16 : Int32) (v17 : Int32) (H : Heap) (locs : List Loc), va_P D vwCl [(ax, .inr (8, [.int m_letterMany, .ref a_text, .int m_readAt, .ref a_told, .ref a_readLaw, .ref a_readNow, .ref a_law, .ref a_now, .ref a_tried, .int m_undoMany, .int m_undoAt, .ref a_undos, .int m_seenMany, .ref a_seenHour, .ref a_seenAt, .ref a_parts, .ref a_partsThen, .int m_keptMany, .ref a_kept])), (a_law, .inl (cI, 22, .inl m_law)), (a_now, .inl (cI, 26, .inl m_now))] H → va_D A [(ax, .inr (8, [.int m_letterMany, .ref a_text, .int m_readAt, .ref a_told, .ref a_readLaw, .ref a_readNow, .ref a_law, .ref a_now, .ref a_tried, .int m_undoMany, .int m_undoAt, .ref a_undos, .int m_seenMany, .ref a_seenHour, .ref a_seenAt, .ref a_parts, .ref a_partsThen, .int m_keptMany, .ref a_kept])), (a_law, .inl (cI, 22, .inl m_law)), (a_now, .inl (cI, 26, .inl m_now))] → va_S A s.heap H locs → ∀ ls : Array Slot, lv_has ls 9 [(6, .int v17), (5, .int v16), (4, .int v14), (3, .int v13), (0, .ref ax), (1, .int i)] → f_X8_worksBy_L113 m_law i m_now v14 k113 nf113 v16 v17 = some rr → W p l e rm_X8_worksBy s m args below meth c H locs 0 0 Q (F0 m 113 ls []) := by
          intro k113 hk113 nf113
          induction nf113 with
          | zero =>
            intro v16 v17 H locs hP hD hS ls hl hF
            rw [f_X8_worksBy_L113_0] at hF
            cases hF
          | succ nf113 ih113 =>
            intro v16 v17 H locs hP hD hS ls hl hF
            rw [f_X8_worksBy_L113_s] at hF
            refine lv_iload hx hb dX8_worksBy_113 (lv_at hl 0 rfl) ?_
            refine lv_aload_n hx hb dX8_worksBy_115 rfl (lv_at hl 4 rfl) ?_
            refine va_get (D := D) (ci := 8) (v := .ref a_law) (C := RX8) (T := TX8) (N := 19) hx hb hts iX8 hown hK hP 0 rfl rfl 6 (by decide) k_f22 (fun _ h9 => h9) rfl dX8_worksBy_116 ?_
            refine lv_iconst (v := (2 : Int32)) hx hb dX8_worksBy_119 (by decide) ?_
            refine va_iald hx hb hK hP 1 0 rfl rfl (okb_in (by decide)) dX8_worksBy_120 ?_
            refine lv_icmp_ge (tgt := 248) hx hb dX8_worksBy_121 (by decide) (fun c18 => ?_) (fun c18 => ?_)
            · have hF := op_pos c18 hF
              exact hk113 v16 v17 _ _ hP hD hS _ (lv_sub hl [1, 2, 3, 4, 5] rfl) hF
            · have hF := op_neg c18 hF
              refine lv_aload_n hx hb dX8_worksBy_124 rfl (lv_at hl 4 rfl) ?_
              refine lv_iload_n hx hb dX8_worksBy_125 rfl (lv_at hl 5 rfl) ?_
              refine lv_iload hx hb dX8_worksBy_126 (lv_at hl 0 rfl) ?_
              obtain ⟨r19, hb20, hF⟩ := op_bind hF
              refine xVr (As := [.int i, .int v17]) (rest := []) hC hP hD hS [0, 1] (c_X8_dealt l D cI cC cM ax a_law a_text a_told a_readLaw a_readNow a_now a_tried a_undos a_seenHour a_seenAt a_parts a_partsThen a_kept m_letterMany m_readAt m_undoMany m_undoAt m_seenMany m_keptMany m_law i v17 r19 hb20) (cwV 2 hts gX8_worksBy_X8_dealt rfl rfl rfl ⟨rfl, pd_X8_dealt⟩ ⟨Nat.le_of_ble_eq_true rfl, Nat.le_of_ble_eq_true rfl⟩) rfl rfl 0 8 rfl rfl rfl rfl hl.1 rfl (Nat.le_of_ble_eq_true rfl) dX8_worksBy_128 ⟨Nat.zero_le _, Nat.zero_le _⟩ (fun H locs hP hS => ?_)
              refine lv_istore (lv' := [(7, .int r19), (6, .int v17), (5, .int v16), (4, .int v14), (3, .int v13), (0, .ref ax), (1, .int i)]) hx hb dX8_worksBy_131 hl (by decide) rfl (fun ls hl => ?_)
              refine lv_aload_n hx hb dX8_worksBy_133 rfl (lv_at hl 5 rfl) ?_
              refine va_get (D := D) (ci := 8) (v := .ref a_now) (C := RX8) (T := TX8) (N := 19) hx hb hts iX8 hown hK hP 0 rfl rfl 7 (by decide) k_f25 (fun _ h9 => h9) rfl dX8_worksBy_134 ?_
              refine lv_iconst (v := (3 : Int32)) hx hb dX8_worksBy_137 (by decide) ?_
              refine va_iald hx hb hK hP 2 0 rfl rfl (okb_in (by decide)) dX8_worksBy_138 ?_
              refine lv_iload hx hb dX8_worksBy_139 (lv_at hl 1 rfl) ?_
              obtain ⟨r21, hb22, hF⟩ := op_bind hF
              refine xSr (As := [.int (m_now (3 : Int32).toNatClampNeg), .int v17]) (rest := []) hC hP hD hS [] (c_X8_has l D cI cC cM (m_now (3 : Int32).toNatClampNeg) v17 r21 hb22) (va_cwS 2 hts gX8_worksBy_X8_has rfl rfl rfl pd_X8_has ⟨Nat.le_of_ble_eq_true rfl, Nat.le_of_ble_eq_true rfl⟩) rfl rfl rfl hl.1 rfl (Nat.le_of_ble_eq_true rfl) dX8_worksBy_141 ⟨Nat.zero_le _, Nat.zero_le _⟩ (fun H locs hP hS => ?_)
              refine lv_if_ne (tgt := 174) hx hb dX8_worksBy_144 (by decide) (fun c23 => ?_) (fun c23 => ?_)
              · have hF := op_neg c23 hF
                refine lv_iconst (v := (0 : Int32)) hx hb dX8_worksBy_174 (by decide) ?_
                refine lv_istore (lv' := [(8, .int (0 : Int32)), (7, .int r19), (6, .int v17), (5, .int v16), (4, .int v14), (3, .int v13), (0, .ref ax), (1, .int i)]) hx hb dX8_worksBy_175 hl (by decide) rfl (fun ls hl => ?_)
                refine lv_iload hx hb dX8_worksBy_177 (lv_at hl 3 rfl) ?_
                refine lv_if_ne (tgt := 235) hx hb dX8_worksBy_179 (by decide) (fun c24 => ?_) (fun c24 => ?_)
                · have hF := op_neg c24 hF
                  refine lv_iconst (v := (1 : Int32)) hx hb dX8_worksBy_235 (by decide) ?_
                  refine lv_goto (tgt := 240) hx hb dX8_worksBy_236 (by decide) ?_
                  refine lv_istore (lv' := [(5, .int (1 : Int32)), (8, .int (0 : Int32)), (7, .int r19), (6, .int v17), (4, .int v14), (3, .int v13), (0, .ref ax), (1, .int i)]) hx hb dX8_worksBy_240 hl (by decide) rfl (fun ls hl => ?_)
                  refine lv_iinc (v := (v17 + (1 : Int32))) (lv' := [(6, .int (v17 + (1 : Int32))), (5, .int (1 : Int32)), (8, .int (0 : Int32)), (7, .int r19), (4, .int v14), (3, .int v13), (0, .ref ax), (1, .int i)]) hx hb dX8_worksBy_242 hl (k := 3) rfl (by first | rfl | decide) (by decide) rfl (fun ls hl => ?_)
                  refine lv_goto (tgt := 113) hx hb dX8_worksBy_245 (by decide) ?_
                  exact ih113 (1 : Int32) (v17 + (1 : Int32)) _ _ hP hD hS _ (lv_sub hl [0, 1, 4, 5, 6, 7] rfl) hF
                · have hF := op_pos c24 hF
                  refine lv_iload hx hb dX8_worksBy_182 (lv_at hl 0 rfl) ?_
                  refine lv_if_eq (tgt := 239) hx hb dX8_worksBy_184 (by decide) (fun _ => ?_) (fun c => absurd (by decide) c)
                  refine lv_iconst (v := (0 : Int32)) hx hb dX8_worksBy_239 (by decide) ?_
                  refine lv_istore (lv' := [(5, .int (0 : Int32)), (8, .int (0 : Int32)), (7, .int r19), (6, .int v17), (4, .int v14), (3, .int v13), (0, .ref ax), (1, .int i)]) hx hb dX8_worksBy_240 hl (by decide) rfl (fun ls hl => ?_)
                  refine lv_iinc (v := (v17 + (1 : Int32))) (lv' := [(6, .int (v17 + (1 : Int32))), (5, .int (0 : Int32)), (8, .int (0 : Int32)), (7, .int r19), (4, .int v14), (3, .int v13), (0, .ref ax), (1, .int i)]) hx hb dX8_worksBy_242 hl (k := 3) rfl (by first | rfl | decide) (by decide) rfl (fun ls hl => ?_)
                  refine lv_goto (tgt := 113) hx hb dX8_worksBy_245 (by decide) ?_
                  exact ih113 (0 : Int32) (v17 + (1 : Int32)) _ _ hP hD hS _ (lv_sub hl [0, 1, 4, 5, 6, 7] rfl) hF
              · have hF := op_pos c23 hF
                refine lv_aload_n hx hb dX8_worksBy_147 rfl (lv_at hl 5 rfl) ?_
                refine va_get (D := D) (ci := 8) (v := .ref a_now) (C := RX8) (T := TX8) (N := 19) hx hb hts iX8 hown hK hP 0 rfl rfl 7 (by decide) k_f25 (fun _ h9 => h9) rfl dX8_worksBy_148 ?_
                refine lv_bipush (v := (16 : Int32)) hx hb dX8_worksBy_151 (by decide) ?_
                refine lv_iload hx hb dX8_worksBy_153 (lv_at hl 1 rfl) ?_
                refine lv_iadd hx hb dX8_worksBy_155 ?_
                obtain ⟨o25, hF⟩ := op_ob hF
                refine va_iald hx hb hK hP 2 0 rfl rfl (okb_in o25) dX8_worksBy_156 ?_
                refine lv_aload_n hx hb dX8_worksBy_157 rfl (lv_at hl 5 rfl) ?_
                refine va_get (D := D) (ci := 8) (v := .ref a_law) (C := RX8) (T := TX8) (N := 19) hx hb hts iX8 hown hK hP 0 rfl rfl 6 (by decide) k_f22 (fun _ h9 => h9) rfl dX8_worksBy_158 ?_
                refine lv_bipush (v := (10 : Int32)) hx hb dX8_worksBy_161 (by decide) ?_
                refine lv_iload hx hb dX8_worksBy_163 (lv_at hl 3 rfl) ?_
                refine lv_iadd hx hb dX8_worksBy_165 ?_
                obtain ⟨o26, hF⟩ := op_ob hF
                refine va_iald hx hb hK hP 1 0 rfl rfl (okb_in o26) dX8_worksBy_166 ?_
                refine lv_icmp_ne (tgt := 174) hx hb dX8_worksBy_167 (by decide) (fun c27 => ?_) (fun c27 => ?_)
                · have hF := op_neg c27 hF
                  refine lv_iconst (v := (0 : Int32)) hx hb dX8_worksBy_174 (by decide) ?_
                  refine lv_istore (lv' := [(8, .int (0 : Int32)), (7, .int r19), (6, .int v17), (5, .int v16), (4, .int v14), (3, .int v13), (0, .ref ax), (1, .int i)]) hx hb dX8_worksBy_175 hl (by decide) rfl (fun ls hl => ?_)
                  refine lv_iload hx hb dX8_worksBy_177 (lv_at hl 3 rfl) ?_
                  refine lv_if_ne (tgt := 235) hx hb dX8_worksBy_179 (by decide) (fun c28 => ?_) (fun c28 => ?_)
                  · have hF := op_neg c28 hF
                    refine lv_iconst (v := (1 : Int32)) hx hb dX8_worksBy_235 (by decide) ?_
                    refine lv_goto (tgt := 240) hx hb dX8_worksBy_236 (by decide) ?_
                    refine lv_istore (lv' := [(5, .int (1 : Int32)), (8, .int (0 : Int32)), (7, .int r19), (6, .int v17), (4, .int v14), (3, .int v13), (0, .ref ax), (1, .int i)]) hx hb dX8_worksBy_240 hl (by decide) rfl (fun ls hl => ?_)
                    refine lv_iinc (v := (v17 + (1 : Int32))) (lv' := [(6, .int (v17 + (1 : Int32))), (5, .int (1 : Int32)), (8, .int (0 : Int32)), (7, .int r19), (4, .int v14), (3, .int v13), (0, .ref ax), (1, .int i)]) hx hb dX8_worksBy_242 hl (k := 3) rfl (by first | rfl | decide) (by decide) rfl (fun ls hl => ?_)
                    refine lv_goto (tgt := 113) hx hb dX8_worksBy_245 (by decide) ?_
                    exact ih113 (1 : Int32) (v17 + (1 : Int32)) _ _ hP hD hS _ (lv_sub hl [0, 1, 4, 5, 6, 7] rfl) hF
                  · have hF := op_pos c28 hF
                    refine lv_iload hx hb dX8_worksBy_182 (lv_at hl 0 rfl) ?_
                    refine lv_if_eq (tgt := 239) hx hb dX8_worksBy_184 (by decide) (fun _ => ?_) (fun c => absurd (by decide) c)
                    refine lv_iconst (v := (0 : Int32)) hx hb dX8_worksBy_239 (by decide) ?_
                    refine lv_istore (lv' := [(5, .int (0 : Int32)), (8, .int (0 : Int32)), (7, .int r19), (6, .int v17), (4, .int v14), (3, .int v13), (0, .ref ax), (1, .int i)]) hx hb dX8_worksBy_240 hl (by decide) rfl (fun ls hl => ?_)
                    refine lv_iinc (v := (v17 + (1 : Int32))) (lv' := [(6, .int (v17 + (1 : Int32))), (5, .int (0 : Int32)), (8, .int (0 : Int32)), (7, .int r19), (4, .int v14), (3, .int v13), (0, .ref ax), (1, .int i)]) hx hb dX8_worksBy_242 hl (k := 3) rfl (by first | rfl | decide) (by decide) rfl (fun ls hl => ?_)
                    refine lv_goto (tgt := 113) hx hb dX8_worksBy_245 (by decide) ?_
                    exact ih113 (0 : Int32) (v17 + (1 : Int32)) _ _ hP hD hS _ (lv_sub hl [0, 1, 4, 5, 6, 7] rfl) hF
                · have hF := op_pos c27 hF
                  refine lv_iconst (v := (1 : Int32)) hx hb dX8_worksBy_170 (by decide) ?_
                  refine lv_goto (tgt := 175) hx hb dX8_worksBy_171 (by decide) ?_
                  refine lv_istore (lv' := [(8, .int (1 : Int32)), (7, .int r19), (6, .int v17), (5, .int v16), (4, .int v14), (3, .int v13), (0, .ref ax), (1, .int i)]) hx hb dX8_worksBy_175 hl (by decide) rfl (fun ls hl => ?_)
                  refine lv_iload hx hb dX8_worksBy_177 (lv_at hl 3 rfl) ?_
                  refine lv_if_ne (tgt := 235) hx hb dX8_worksBy_179 (by decide) (fun c29 => ?_) (fun c29 => ?_)
                  · have hF := op_neg c29 hF
                    refine lv_iconst (v := (1 : Int32)) hx hb dX8_worksBy_235 (by decide) ?_
                    refine lv_goto (tgt := 240) hx hb dX8_worksBy_236 (by decide) ?_
                    refine lv_istore (lv' := [(5, .int (1 : Int32)), (8, .int (1 : Int32)), (7, .int r19), (6, .int v17), (4, .int v14), (3, .int v13), (0, .ref ax), (1, .int i)]) hx hb dX8_worksBy_240 hl (by decide) rfl (fun ls hl => ?_)
                    refine lv_iinc (v := (v17 + (1 : Int32))) (lv' := [(6, .int (v17 + (1 : Int32))), (5, .int (1 : Int32)), (8, .int (1 : Int32)), (7, .int r19), (4, .int v14), (3, .int v13), (0, .ref ax), (1, .int i)]) hx hb dX8_worksBy_242 hl (k := 3) rfl (by first | rfl | decide) (by decide) rfl (fun ls hl => ?_)
                    refine lv_goto (tgt := 113) hx hb dX8_worksBy_245 (by decide) ?_
                    exact ih113 (1 : Int32) (v17 + (1 : Int32)) _ _ hP hD hS _ (lv_sub hl [0, 1, 4, 5, 6, 7] rfl) hF
                  · have hF := op_pos c29 hF
                    refine lv_iload hx hb dX8_worksBy_182 (lv_at hl 0 rfl) ?_
                    refine lv_if_eq (tgt := 239) hx hb dX8_worksBy_184 (by decide) (fun c => absurd c (by decide)) (fun _ => ?_)
                    refine lv_aload_n hx hb dX8_worksBy_187 rfl (lv_at hl 6 rfl) ?_
                    refine va_get (D := D) (ci := 8) (v := .ref a_now) (C := RX8) (T := TX8) (N := 19) hx hb hts iX8 hown hK hP 0 rfl rfl 7 (by decide) k_f25 (fun _ h9 => h9) rfl dX8_worksBy_188 ?_
                    refine lv_aload_n hx hb dX8_worksBy_191 rfl (lv_at hl 6 rfl) ?_
                    refine va_get (D := D) (ci := 8) (v := .ref a_now) (C := RX8) (T := TX8) (N := 19) hx hb hts iX8 hown hK hP 0 rfl rfl 7 (by decide) k_f25 (fun _ h9 => h9) rfl dX8_worksBy_192 ?_
                    refine lv_bipush (v := (16 : Int32)) hx hb dX8_worksBy_195 (by decide) ?_
                    refine lv_iload hx hb dX8_worksBy_197 (lv_at hl 2 rfl) ?_
                    refine lv_iadd hx hb dX8_worksBy_199 ?_
                    refine va_iald hx hb hK hP 2 0 rfl rfl (okb_in o25) dX8_worksBy_200 ?_
                    refine lv_iload hx hb dX8_worksBy_201 (lv_at hl 1 rfl) ?_
                    refine lv_aload_n hx hb dX8_worksBy_203 rfl (lv_at hl 6 rfl) ?_
                    refine va_get (D := D) (ci := 8) (v := .ref a_law) (C := RX8) (T := TX8) (N := 19) hx hb hts iX8 hown hK hP 0 rfl rfl 6 (by decide) k_f22 (fun _ h9 => h9) rfl dX8_worksBy_204 ?_
                    refine lv_iconst (v := (1 : Int32)) hx hb dX8_worksBy_207 (by decide) ?_
                    refine va_iald hx hb hK hP 1 0 rfl rfl (okb_in (by decide)) dX8_worksBy_208 ?_
                    refine lv_icmp_ne (tgt := 217) hx hb dX8_worksBy_209 (by decide) (fun c30 => ?_) (fun c30 => ?_)
                    · have hF := op_neg c30 hF
                      refine lv_iload hx hb dX8_worksBy_217 (lv_at hl 1 rfl) ?_
                      obtain ⟨r31, hb32, hF⟩ := op_bind hF
                      refine xSr (As := [.ref a_now, .int (m_now ((16 : Int32) + v17).toNatClampNeg), .int r19]) (rest := []) hC hP hD hS [2] (c_X8_clock l D cI cC cM a_now m_now (m_now ((16 : Int32) + v17).toNatClampNeg) r19 r31 hb32) (va_cwS 3 hts gX8_worksBy_X8_clock rfl rfl rfl pd_X8_clock ⟨Nat.le_of_ble_eq_true rfl, Nat.le_of_ble_eq_true rfl⟩) rfl rfl rfl hl.1 rfl (Nat.le_of_ble_eq_true rfl) dX8_worksBy_219 ⟨Nat.zero_le _, Nat.zero_le _⟩ (fun H locs hP hS => ?_)
                      refine lv_aload_n hx hb dX8_worksBy_222 rfl (lv_at hl 6 rfl) ?_
                      refine va_get (D := D) (ci := 8) (v := .ref a_law) (C := RX8) (T := TX8) (N := 19) hx hb hts iX8 hown hK hP 0 rfl rfl 6 (by decide) k_f22 (fun _ h9 => h9) rfl dX8_worksBy_223 ?_
                      refine lv_bipush (v := (16 : Int32)) hx hb dX8_worksBy_226 (by decide) ?_
                      refine lv_iload hx hb dX8_worksBy_228 (lv_at hl 4 rfl) ?_
                      refine lv_iadd hx hb dX8_worksBy_230 ?_
                      obtain ⟨o33, hF⟩ := op_ob hF
                      refine va_iald hx hb hK hP 1 0 rfl rfl (okb_in o33) dX8_worksBy_231 ?_
                      refine lv_icmp_ne (tgt := 239) hx hb dX8_worksBy_232 (by decide) (fun c34 => ?_) (fun c34 => ?_)
                      · have hF := op_neg c34 hF
                        refine lv_iconst (v := (0 : Int32)) hx hb dX8_worksBy_239 (by decide) ?_
                        refine lv_istore (lv' := [(5, .int (0 : Int32)), (8, .int (1 : Int32)), (7, .int r19), (6, .int v17), (4, .int v14), (3, .int v13), (0, .ref ax), (1, .int i)]) hx hb dX8_worksBy_240 hl (by decide) rfl (fun ls hl => ?_)
                        refine lv_iinc (v := (v17 + (1 : Int32))) (lv' := [(6, .int (v17 + (1 : Int32))), (5, .int (0 : Int32)), (8, .int (1 : Int32)), (7, .int r19), (4, .int v14), (3, .int v13), (0, .ref ax), (1, .int i)]) hx hb dX8_worksBy_242 hl (k := 3) rfl (by first | rfl | decide) (by decide) rfl (fun ls hl => ?_)
                        refine lv_goto (tgt := 113) hx hb dX8_worksBy_245 (by decide) ?_
                        exact ih113 (0 : Int32) (v17 + (1 : Int32)) _ _ hP hD hS _ (lv_sub hl [0, 1, 4, 5, 6, 7] rfl) hF
                      · have hF := op_pos c34 hF
                        refine lv_iconst (v := (1 : Int32)) hx hb dX8_worksBy_235 (by decide) ?_
                        refine lv_goto (tgt := 240) hx hb dX8_worksBy_236 (by decide) ?_
                        refine lv_istore (lv' := [(5, .int (1 : Int32)), (8, .int (1 : Int32)), (7, .int r19), (6, .int v17), (4, .int v14), (3, .int v13), (0, .ref ax), (1, .int i)]) hx hb dX8_worksBy_240 hl (by decide) rfl (fun ls hl => ?_)
                        refine lv_iinc (v := (v17 + (1 : Int32))) (lv' := [(6, .int (v17 + (1 : Int32))), (5, .int (1 : Int32)), (8, .int (1 : Int32)), (7, .int r19), (4, .int v14), (3, .int v13), (0, .ref ax), (1, .int i)]) hx hb dX8_worksBy_242 hl (k := 3) rfl (by first | rfl | decide) (by decide) rfl (fun ls hl => ?_)
                        refine lv_goto (tgt := 113) hx hb dX8_worksBy_245 (by decide) ?_
                        exact ih113 (1 : Int32) (v17 + (1 : Int32)) _ _ hP hD hS _ (lv_sub hl [0, 1, 4, 5, 6, 7] rfl) hF
                    · have hF := op_pos c30 hF
                      refine lv_bipush (v := (-4 : Int32)) hx hb dX8_worksBy_212 (by decide) ?_
                      refine lv_goto (tgt := 219) hx hb dX8_worksBy_214 (by decide) ?_
                      obtain ⟨r35, hb36, hF⟩ := op_bind hF
                      refine xSr (As := [.ref a_now, .int (m_now ((16 : Int32) + v17).toNatClampNeg), .int (-4 : Int32)]) (rest := []) hC hP hD hS [2] (c_X8_clock l D cI cC cM a_now m_now (m_now ((16 : Int32) + v17).toNatClampNeg) (-4 : Int32) r35 hb36) (va_cwS 3 hts gX8_worksBy_X8_clock rfl rfl rfl pd_X8_clock ⟨Nat.le_of_ble_eq_true rfl, Nat.le_of_ble_eq_true rfl⟩) rfl rfl rfl hl.1 rfl (Nat.le_of_ble_eq_true rfl) dX8_worksBy_219 ⟨Nat.zero_le _, Nat.zero_le _⟩ (fun H locs hP hS => ?_)
                      refine lv_aload_n hx hb dX8_worksBy_222 rfl (lv_at hl 6 rfl) ?_
                      refine va_get (D := D) (ci := 8) (v := .ref a_law) (C := RX8) (T := TX8) (N := 19) hx hb hts iX8 hown hK hP 0 rfl rfl 6 (by decide) k_f22 (fun _ h9 => h9) rfl dX8_worksBy_223 ?_
                      refine lv_bipush (v := (16 : Int32)) hx hb dX8_worksBy_226 (by decide) ?_
                      refine lv_iload hx hb dX8_worksBy_228 (lv_at hl 4 rfl) ?_
                      refine lv_iadd hx hb dX8_worksBy_230 ?_
                      obtain ⟨o37, hF⟩ := op_ob hF
                      refine va_iald hx hb hK hP 1 0 rfl rfl (okb_in o37) dX8_worksBy_231 ?_
                      refine lv_icmp_ne (tgt := 239) hx hb dX8_worksBy_232 (by decide) (fun c38 => ?_) (fun c38 => ?_)
                      · have hF := op_neg c38 hF
                        refine lv_iconst (v := (0 : Int32)) hx hb dX8_worksBy_239 (by decide) ?_
                        refine lv_istore (lv' := [(5, .int (0 : Int32)), (8, .int (1 : Int32)), (7, .int r19), (6, .int v17), (4, .int v14), (3, .int v13), (0, .ref ax), (1, .int i)]) hx hb dX8_worksBy_240 hl (by decide) rfl (fun ls hl => ?_)
                        refine lv_iinc (v := (v17 + (1 : Int32))) (lv' := [(6, .int (v17 + (1 : Int32))), (5, .int (0 : Int32)), (8, .int (1 : Int32)), (7, .int r19), (4, .int v14), (3, .int v13), (0, .ref ax), (1, .int i)]) hx hb dX8_worksBy_242 hl (k := 3) rfl (by first | rfl | decide) (by decide) rfl (fun ls hl => ?_)
                        refine lv_goto (tgt := 113) hx hb dX8_worksBy_245 (by decide) ?_
                        exact ih113 (0 : Int32) (v17 + (1 : Int32)) _ _ hP hD hS _ (lv_sub hl [0, 1, 4, 5, 6, 7] rfl) hF
                      · have hF := op_pos c38 hF
                        refine lv_iconst (v := (1 : Int32)) hx hb dX8_worksBy_235 (by decide) ?_
                        refine lv_goto (tgt := 240) hx hb dX8_worksBy_236 (by decide) ?_
                        refine lv_istore (lv' := [(5, .int (1 : Int32)), (8, .int (1 : Int32)), (7, .int r19), (6, .int v17), (4, .int v14), (3, .int v13), (0, .ref ax), (1, .int i)]) hx hb dX8_worksBy_240 hl (by decide) rfl (fun ls hl => ?_)
                        refine lv_iinc (v := (v17 + (1 : Int32))) (lv' := [(6, .int (v17 + (1 : Int32))), (5, .int (1 : Int32)), (8, .int (1 : Int32)), (7, .int r19), (4, .int v14), (3, .int v13), (0, .ref ax), (1, .int i)]) hx hb dX8_worksBy_242 hl (k := 3) rfl (by first | rfl | decide) (by decide) rfl (fun ls hl => ?_)
                        refine lv_goto (tgt := 113) hx hb dX8_worksBy_245 (by decide) ?_
                        exact ih113 (1 : Int32) (v17 + (1 : Int32)) _ _ hP hD hS _ (lv_sub hl [0, 1, 4, 5, 6, 7] rfl) hF
        refine hL113 _ (fun v16 v17 H locs hP hD hS ls hl hF => ?_) 20000 (0 : Int32) (0 : Int32) _ _ hP hD hS _ (lv_sub hl [0, 1, 2, 3, 4, 5] rfl) hF
        refine lv_iload_n hx hb dX8_worksBy_248 rfl (lv_at hl 2 rfl) ?_
        refine lv_iload hx hb dX8_worksBy_249 (lv_at hl 0 rfl) ?_
        refine lv_if_eq (tgt := 272) hx hb dX8_worksBy_251 (by decide) (fun c39 => ?_) (fun c39 => ?_)
        · have hF := op_pos c39 hF
          refine lv_iconst (v := (0 : Int32)) hx hb dX8_worksBy_272 (by decide) ?_
          refine lv_iadd hx hb dX8_worksBy_273 ?_
          refine lv_istore_n (lv' := [(3, .int (v13 + (0 : Int32))), (5, .int v16), (4, .int v14), (0, .ref ax), (1, .int i)]) hx hb dX8_worksBy_274 rfl hl (by decide) rfl (fun ls hl => ?_)
          refine lv_iinc (v := (v14 + (1 : Int32))) (lv' := [(4, .int (v14 + (1 : Int32))), (3, .int (v13 + (0 : Int32))), (5, .int v16), (0, .ref ax), (1, .int i)]) hx hb dX8_worksBy_275 hl (k := 2) rfl (by first | rfl | decide) (by decide) rfl (fun ls hl => ?_)
          refine lv_goto (tgt := 96) hx hb dX8_worksBy_278 (by decide) ?_
          exact ih96 (v13 + (0 : Int32)) (v14 + (1 : Int32)) _ _ hP hD hS _ (lv_sub hl [0, 1, 3, 4] rfl) hF
        · have hF := op_neg c39 hF
          refine lv_aload_n hx hb dX8_worksBy_254 rfl (lv_at hl 3 rfl) ?_
          refine va_get (D := D) (ci := 8) (v := .ref a_now) (C := RX8) (T := TX8) (N := 19) hx hb hts iX8 hown hK hP 0 rfl rfl 7 (by decide) k_f25 (fun _ h9 => h9) rfl dX8_worksBy_255 ?_
          refine lv_iconst (v := (2 : Int32)) hx hb dX8_worksBy_258 (by decide) ?_
          refine va_iald hx hb hK hP 2 0 rfl rfl (okb_in (by decide)) dX8_worksBy_259 ?_
          refine lv_iload hx hb dX8_worksBy_260 (lv_at hl 1 rfl) ?_
          obtain ⟨r40, hb41, hF⟩ := op_bind hF
          refine xSr (As := [.int (m_now (2 : Int32).toNatClampNeg), .int v14]) (rest := [.int v13]) hC hP hD hS [] (c_X8_has l D cI cC cM (m_now (2 : Int32).toNatClampNeg) v14 r40 hb41) (va_cwS 2 hts gX8_worksBy_X8_has rfl rfl rfl pd_X8_has ⟨Nat.le_of_ble_eq_true rfl, Nat.le_of_ble_eq_true rfl⟩) rfl rfl rfl hl.1 rfl (Nat.le_of_ble_eq_true rfl) dX8_worksBy_262 ⟨Nat.zero_le _, Nat.zero_le _⟩ (fun H locs hP hS => ?_)
          refine lv_if_ne (tgt := 272) hx hb dX8_worksBy_265 (by decide) (fun c42 => ?_) (fun c42 => ?_)
          · have hF := op_neg c42 hF
            refine lv_iconst (v := (0 : Int32)) hx hb dX8_worksBy_272 (by decide) ?_
            refine lv_iadd hx hb dX8_worksBy_273 ?_
            refine lv_istore_n (lv' := [(3, .int (v13 + (0 : Int32))), (5, .int v16), (4, .int v14), (0, .ref ax), (1, .int i)]) hx hb dX8_worksBy_274 rfl hl (by decide) rfl (fun ls hl => ?_)
            refine lv_iinc (v := (v14 + (1 : Int32))) (lv' := [(4, .int (v14 + (1 : Int32))), (3, .int (v13 + (0 : Int32))), (5, .int v16), (0, .ref ax), (1, .int i)]) hx hb dX8_worksBy_275 hl (k := 2) rfl (by first | rfl | decide) (by decide) rfl (fun ls hl => ?_)
            refine lv_goto (tgt := 96) hx hb dX8_worksBy_278 (by decide) ?_
            exact ih96 (v13 + (0 : Int32)) (v14 + (1 : Int32)) _ _ hP hD hS _ (lv_sub hl [0, 1, 3, 4] rfl) hF
          · have hF := op_pos c42 hF
            refine lv_iconst (v := (1 : Int32)) hx hb dX8_worksBy_268 (by decide) ?_
            refine lv_goto (tgt := 273) hx hb dX8_worksBy_269 (by decide) ?_
            refine lv_iadd hx hb dX8_worksBy_273 ?_
            refine lv_istore_n (lv' := [(3, .int (v13 + (1 : Int32))), (5, .int v16), (4, .int v14), (0, .ref ax), (1, .int i)]) hx hb dX8_worksBy_274 rfl hl (by decide) rfl (fun ls hl => ?_)
            refine lv_iinc (v := (v14 + (1 : Int32))) (lv' := [(4, .int (v14 + (1 : Int32))), (3, .int (v13 + (1 : Int32))), (5, .int v16), (0, .ref ax), (1, .int i)]) hx hb dX8_worksBy_275 hl (k := 2) rfl (by first | rfl | decide) (by decide) rfl (fun ls hl => ?_)
            refine lv_goto (tgt := 96) hx hb dX8_worksBy_278 (by decide) ?_
            exact ih96 (v13 + (1 : Int32)) (v14 + (1 : Int32)) _ _ hP hD hS _ (lv_sub hl [0, 1, 3, 4] rfl) hF
  refine hL96 _ (fun v13 v14 H locs hP hD hS ls hl hF => ?_) 20000 (0 : Int32) (0 : Int32) _ _ hP hD hS _ (lv_sub hl [0, 1, 2, 3] rfl) hF
  refine lv_iload_n hx hb dX8_worksBy_281 rfl (lv_at hl 0 rfl) ?_
  cases hF
  rw [hQ]
  exact xri hC hP hS dX8_worksBy_282

def f_X8_deal_L22 (m_law : (Nat → Int32)) (k22 : Int32 → Int32 → Option Int32) : Nat → Int32 → Int32 → Option Int32
  | 0, _, _ => none
  | nf22 + 1, v4, v5 => (if (m_law (2 : Int32).toNatClampNeg) ≤ v5 then (k22 v4 v5) else (f_X8_deal_L22 m_law k22 nf22 (v4 * ((m_law (1 : Int32).toNatClampNeg) + (1 : Int32))) (v5 + (1 : Int32))))
theorem f_X8_deal_L22_0 (m_law : (Nat → Int32)) (k22 : Int32 → Int32 → Option Int32) (v4 : Int32) (v5 : Int32) : f_X8_deal_L22 m_law k22 0 v4 v5 = none := rfl
theorem f_X8_deal_L22_s (m_law : (Nat → Int32)) (k22 : Int32 → Int32 → Option Int32) (nf22 : Nat) (v4 : Int32) (v5 : Int32) : f_X8_deal_L22 m_law k22 (nf22 + 1) v4 v5 = (if (m_law (2 : Int32).toNatClampNeg) ≤ v5 then (k22 v4 v5) else (f_X8_deal_L22 m_law k22 nf22 (v4 * ((m_law (1 : Int32).toNatClampNeg) + (1 : Int32))) (v5 + (1 : Int32)))) := rfl

def f_X8_deal_L58 (v4 : Int32) (m_law : (Nat → Int32)) (m_now : (Nat → Int32)) (k58 : Int32 → Int32 → Int32 → Option Int32) : Nat → Int32 → Int32 → Int32 → Option Int32
  | 0, _, _, _ => none
  | nf58 + 1, v7, v8, v9 => (if v4 ≤ v9 then (k58 v7 v8 v9) else (Option.bind (f_X8_worksBy m_law m_now v9) fun r11 => (if r11 ≤ v8 then (f_X8_deal_L58 v4 m_law m_now k58 nf58 v7 v8 (v9 + (1 : Int32))) else (f_X8_deal_L58 v4 m_law m_now k58 nf58 v9 r11 (v9 + (1 : Int32))))))
theorem f_X8_deal_L58_0 (v4 : Int32) (m_law : (Nat → Int32)) (m_now : (Nat → Int32)) (k58 : Int32 → Int32 → Int32 → Option Int32) (v7 : Int32) (v8 : Int32) (v9 : Int32) : f_X8_deal_L58 v4 m_law m_now k58 0 v7 v8 v9 = none := rfl
theorem f_X8_deal_L58_s (v4 : Int32) (m_law : (Nat → Int32)) (m_now : (Nat → Int32)) (k58 : Int32 → Int32 → Int32 → Option Int32) (nf58 : Nat) (v7 : Int32) (v8 : Int32) (v9 : Int32) : f_X8_deal_L58 v4 m_law m_now k58 (nf58 + 1) v7 v8 v9 = (if v4 ≤ v9 then (k58 v7 v8 v9) else (Option.bind (f_X8_worksBy m_law m_now v9) fun r11 => (if r11 ≤ v8 then (f_X8_deal_L58 v4 m_law m_now k58 nf58 v7 v8 (v9 + (1 : Int32))) else (f_X8_deal_L58 v4 m_law m_now k58 nf58 v9 r11 (v9 + (1 : Int32)))))) := rfl

def f_X8_deal (m_law : (Nat → Int32)) (m_now : (Nat → Int32)) (k : Int32) : Option Int32 := (Option.bind (f_X8_in k (-1 : Int32) ((m_law (2 : Int32).toNatClampNeg) - (1 : Int32))) fun r1 => (if r1 = 0 then (some (-1 : Int32)) else (f_X8_deal_L22 m_law (fun (v4 : Int32) (v5 : Int32) => (f_X8_deal_L58 v4 m_law m_now (fun (v7 : Int32) (v8 : Int32) (v9 : Int32) => (if 0 ≤ k then (Option.bind (f_X8_dealt m_law v7 k) fun r15 => (if r15 = (m_law (1 : Int32).toNatClampNeg) then (some (-4 : Int32)) else (Option.bind (f_X8_dealt m_law v7 k) fun r18 => (some r18)))) else (some v8))) 20000 (-4 : Int32) (-1 : Int32) (0 : Int32))) 20000 (1 : Int32) (0 : Int32))))

def rm_X8_deal : Room := { frames := 2, cells := 0, slots := 0, locals := 52 }

theorem pd_X8_deal : yX8_deal.cls ≠ "java/lang/invoke/MethodHandle" ∧ yX8_deal.cls ≠ "java/lang/invoke/VarHandle" ∧ (parseMethodDescriptor yX8_deal.desc).map (fun d => d.parameters.length) = some 1 := by decide +kernel

set_option maxHeartbeats 4000000 in
set_option maxRecDepth 100000 in
theorem c_X8_deal (l : Launch) (D : va_G) (cI cC cM : ClassId) (ax a_law a_now a_text a_told a_readLaw a_readNow a_tried a_undos a_seenHour a_seenAt a_parts a_partsThen a_kept : Nat) (m_letterMany : Int32) (m_readAt : Int32) (m_undoMany : Int32) (m_undoAt : Int32) (m_seenMany : Int32) (m_keptMany : Int32) (m_law : (Nat → Int32)) (m_now : (Nat → Int32)) (k : Int32) (rr : Int32) (hF : f_X8_deal m_law m_now k = some rr) : CI l D cI cC cM yX8_deal wsX8_deal rm_X8_deal [.ref ax, .int k] [(ax, .inr (8, [.int m_letterMany, .ref a_text, .int m_readAt, .ref a_told, .ref a_readLaw, .ref a_readNow, .ref a_law, .ref a_now, .ref a_tried, .int m_undoMany, .int m_undoAt, .ref a_undos, .int m_seenMany, .ref a_seenHour, .ref a_seenAt, .ref a_parts, .ref a_partsThen, .int m_keptMany, .ref a_kept])), (a_law, .inl (cI, 22, .inl m_law)), (a_now, .inl (cI, 26, .inl m_now))] [(ax, .inr (8, [.int m_letterMany, .ref a_text, .int m_readAt, .ref a_told, .ref a_readLaw, .ref a_readNow, .ref a_law, .ref a_now, .ref a_tried, .int m_undoMany, .int m_undoAt, .ref a_undos, .int m_seenMany, .ref a_seenHour, .ref a_seenAt, .ref a_parts, .ref a_partsThen, .int m_keptMany, .ref a_kept])), (a_law, .inl (cI, 22, .inl m_law)), (a_now, .inl (cI, 26, .inl m_now))] rr := by
  refine CI.of (cc := cX8_deal) (nL := 7) (ret := (some .int)) (by decide) rfl (Nat.le_of_ble_eq_true rfl) ?_
  intro p e s m args below meth c A hC hP hD hS ls hl
  obtain ⟨hx, hb, hml, hown, hts, hr, hlk, hG, hA⟩ := id hC
  have hown : s.vm.findClass RX8 = some m.cls := hown
  have hK := hG.1
  have hl : lv_has ls 7 [(0, .ref ax), (1, .int k)] := hl
  have k_f22 := hts (.fieldLink RX8 22 "ParasolHoursModel" "law" "[I") (List.mem_of_getElem? (i := 1) rfl)
  have iX8 : ∀ w ∈ wsX80, w ∈ wsX8_deal := by decide +kernel
  obtain ⟨Q, hQ⟩ : ∃ Q, Q = MQ below (QI D [(ax, .inr (8, [.int m_letterMany, .ref a_text, .int m_readAt, .ref a_told, .ref a_readLaw, .ref a_readNow, .ref a_law, .ref a_now, .ref a_tried, .int m_undoMany, .int m_undoAt, .ref a_undos, .int m_seenMany, .ref a_seenHour, .ref a_seenAt, .ref a_parts, .ref a_partsThen, .int m_keptMany, .ref a_kept])), (a_law, .inl (cI, 22, .inl m_law)), (a_now, .inl (cI, 26, .inl m_now))] rr A) args s 0 0 A := ⟨_, rfl⟩
  rw [← hQ]
  unfold f_X8_deal at hF
  refine lv_iload_n hx hb dX8_deal_0 rfl (lv_at hl 1 rfl) ?_
  refine lv_iconst (v := (-1 : Int32)) hx hb dX8_deal_1 (by decide) ?_
  refine lv_aload_n hx hb dX8_deal_2 rfl (lv_at hl 0 rfl) ?_
  refine va_get (D := D) (ci := 8) (v := .ref a_law) (C := RX8) (T := TX8) (N := 19) hx hb hts iX8 hown hK hP 0 rfl rfl 6 (by decide) k_f22 (fun _ h9 => h9) rfl dX8_deal_3 ?_
  refine lv_iconst (v := (2 : Int32)) hx hb dX8_deal_6 (by decide) ?_
  refine va_iald hx hb hK hP 1 0 rfl rfl (okb_in (by decide)) dX8_deal_7 ?_
  refine lv_iconst (v := (1 : Int32)) hx hb dX8_deal_8 (by decide) ?_
  refine lv_isub hx hb dX8_deal_9 ?_
  obtain ⟨r1, hb2, hF⟩ := op_bind hF
  refine xSr (As := [.int k, .int (-1 : Int32), .int ((m_law (2 : Int32).toNatClampNeg) - (1 : Int32))]) (rest := []) hC hP hD hS [] (c_X8_in l D cI cC cM k (-1 : Int32) ((m_law (2 : Int32).toNatClampNeg) - (1 : Int32)) r1 hb2) (va_cwS 3 hts gX8_deal_X8_in rfl rfl rfl pd_X8_in ⟨Nat.le_of_ble_eq_true rfl, Nat.le_of_ble_eq_true rfl⟩) rfl rfl rfl hl.1 rfl (Nat.le_of_ble_eq_true rfl) dX8_deal_10 ⟨Nat.zero_le _, Nat.zero_le _⟩ (fun H locs hP hS => ?_)
  refine lv_if_ne (tgt := 18) hx hb dX8_deal_13 (by decide) (fun c3 => ?_) (fun c3 => ?_)
  · have hF := op_neg c3 hF
    refine lv_iconst (v := (1 : Int32)) hx hb dX8_deal_18 (by decide) ?_
    refine lv_istore_n (lv' := [(2, .int (1 : Int32)), (0, .ref ax), (1, .int k)]) hx hb dX8_deal_19 rfl hl (by decide) rfl (fun ls hl => ?_)
    refine lv_iconst (v := (0 : Int32)) hx hb dX8_deal_20 (by decide) ?_
    refine lv_istore_n (lv' := [(3, .int (0 : Int32)), (2, .int (1 : Int32)), (0, .ref ax), (1, .int k)]) hx hb dX8_deal_21 rfl hl (by decide) rfl (fun ls hl => ?_)
    have hL22 : ∀ (k22 : Int32 → Int32 → Option Int32), (∀ (v4 : Int32) (v5 : Int32) (H : Heap) (locs : List Loc), va_P D vwCl [(ax, .inr (8, [.int m_letterMany, .ref a_text, .int m_readAt, .ref a_told, .ref a_readLaw, .ref a_readNow, .ref a_law, .ref a_now, .ref a_tried, .int m_undoMany, .int m_undoAt, .ref a_undos, .int m_seenMany, .ref a_seenHour, .ref a_seenAt, .ref a_parts, .ref a_partsThen, .int m_keptMany, .ref a_kept])), (a_law, .inl (cI, 22, .inl m_law)), (a_now, .inl (cI, 26, .inl m_now))] H → va_D A [(ax, .inr (8, [.int m_letterMany, .ref a_text, .int m_readAt, .ref a_told, .ref a_readLaw, .ref a_readNow, .ref a_law, .ref a_now, .ref a_tried, .int m_undoMany, .int m_undoAt, .ref a_undos, .int m_seenMany, .ref a_seenHour, .ref a_seenAt, .ref a_parts, .ref a_partsThen, .int m_keptMany, .ref a_kept])), (a_law, .inl (cI, 22, .inl m_law)), (a_now, .inl (cI, 26, .inl m_now))] → va_S A s.heap H locs → ∀ ls : Array Slot, lv_has ls 7 [(2, .int v4), (0, .ref ax), (1, .int k)] → k22 v4 v5 = some rr → W p l e rm_X8_deal s m args below meth c H locs 0 0 Q (F0 m 49 ls [])) → ∀ (nf22 : Nat) (v4 : Int32) (v5 : Int32) (H : Heap) (locs : List Loc), va_P D vwCl [(ax, .inr (8, [.int m_letterMany, .ref a_text, .int m_readAt, .ref a_told, .ref a_readLaw, .ref a_readNow, .ref a_law, .ref a_now, .ref a_tried, .int m_undoMany, .int m_undoAt, .ref a_undos, .int m_seenMany, .ref a_seenHour, .ref a_seenAt, .ref a_parts, .ref a_partsThen, .int m_keptMany, .ref a_kept])), (a_law, .inl (cI, 22, .inl m_law)), (a_now, .inl (cI, 26, .inl m_now))] H → va_D A [(ax, .inr (8, [.int m_letterMany, .ref a_text, .int m_readAt, .ref a_told, .ref a_readLaw, .ref a_readNow, .ref a_law, .ref a_now, .ref a_tried, .int m_undoMany, .int m_undoAt, .ref a_undos, .int m_seenMany, .ref a_seenHour, .ref a_seenAt, .ref a_parts, .ref a_partsThen, .int m_keptMany, .ref a_kept])), (a_law, .inl (cI, 22, .inl m_law)), (a_now, .inl (cI, 26, .inl m_now))] → va_S A s.heap H locs → ∀ ls : Array Slot, lv_has ls 7 [(3, .int v5), (2, .int v4), (0, .ref ax), (1, .int k)] → f_X8_deal_L22 m_law k22 nf22 v4 v5 = some rr → W p l e rm_X8_deal s m args below meth c H locs 0 0 Q (F0 m 22 ls []) := by
      intro k22 hk22 nf22
      induction nf22 with
      | zero =>
        intro v4 v5 H locs hP hD hS ls hl hF
        rw [f_X8_deal_L22_0] at hF
        cases hF
      | succ nf22 ih22 =>
        intro v4 v5 H locs hP hD hS ls hl hF
        rw [f_X8_deal_L22_s] at hF
        refine lv_iload_n hx hb dX8_deal_22 rfl (lv_at hl 0 rfl) ?_
        refine lv_aload_n hx hb dX8_deal_23 rfl (lv_at hl 2 rfl) ?_
        refine va_get (D := D) (ci := 8) (v := .ref a_law) (C := RX8) (T := TX8) (N := 19) hx hb hts iX8 hown hK hP 0 rfl rfl 6 (by decide) k_f22 (fun _ h9 => h9) rfl dX8_deal_24 ?_
        refine lv_iconst (v := (2 : Int32)) hx hb dX8_deal_27 (by decide) ?_
        refine va_iald hx hb hK hP 1 0 rfl rfl (okb_in (by decide)) dX8_deal_28 ?_
        refine lv_icmp_ge (tgt := 49) hx hb dX8_deal_29 (by decide) (fun c6 => ?_) (fun c6 => ?_)
        · have hF := op_pos c6 hF
          exact hk22 v4 v5 _ _ hP hD hS _ (lv_sub hl [1, 2, 3] rfl) hF
        · have hF := op_neg c6 hF
          refine lv_iload_n hx hb dX8_deal_32 rfl (lv_at hl 1 rfl) ?_
          refine lv_aload_n hx hb dX8_deal_33 rfl (lv_at hl 2 rfl) ?_
          refine va_get (D := D) (ci := 8) (v := .ref a_law) (C := RX8) (T := TX8) (N := 19) hx hb hts iX8 hown hK hP 0 rfl rfl 6 (by decide) k_f22 (fun _ h9 => h9) rfl dX8_deal_34 ?_
          refine lv_iconst (v := (1 : Int32)) hx hb dX8_deal_37 (by decide) ?_
          refine va_iald hx hb hK hP 1 0 rfl rfl (okb_in (by decide)) dX8_deal_38 ?_
          refine lv_iconst (v := (1 : Int32)) hx hb dX8_deal_39 (by decide) ?_
          refine lv_iadd hx hb dX8_deal_40 ?_
          refine lv_imul hx hb dX8_deal_41 ?_
          refine lv_istore_n (lv' := [(2, .int (v4 * ((m_law (1 : Int32).toNatClampNeg) + (1 : Int32)))), (3, .int v5), (0, .ref ax), (1, .int k)]) hx hb dX8_deal_42 rfl hl (by decide) rfl (fun ls hl => ?_)
          refine lv_iinc (v := (v5 + (1 : Int32))) (lv' := [(3, .int (v5 + (1 : Int32))), (2, .int (v4 * ((m_law (1 : Int32).toNatClampNeg) + (1 : Int32)))), (0, .ref ax), (1, .int k)]) hx hb dX8_deal_43 hl (k := 1) rfl (by first | rfl | decide) (by decide) rfl (fun ls hl => ?_)
          refine lv_goto (tgt := 22) hx hb dX8_deal_46 (by decide) ?_
          exact ih22 (v4 * ((m_law (1 : Int32).toNatClampNeg) + (1 : Int32))) (v5 + (1 : Int32)) _ _ hP hD hS _ (lv_sub hl [0, 1, 2, 3] rfl) hF
    refine hL22 _ (fun v4 v5 H locs hP hD hS ls hl hF => ?_) 20000 (1 : Int32) (0 : Int32) _ _ hP hD hS _ (lv_sub hl [0, 1, 2, 3] rfl) hF
    refine lv_bipush (v := (-4 : Int32)) hx hb dX8_deal_49 (by decide) ?_
    refine lv_istore_n (lv' := [(3, .int (-4 : Int32)), (2, .int v4), (0, .ref ax), (1, .int k)]) hx hb dX8_deal_51 rfl hl (by decide) rfl (fun ls hl => ?_)
    refine lv_iconst (v := (-1 : Int32)) hx hb dX8_deal_52 (by decide) ?_
    refine lv_istore (lv' := [(4, .int (-1 : Int32)), (3, .int (-4 : Int32)), (2, .int v4), (0, .ref ax), (1, .int k)]) hx hb dX8_deal_53 hl (by decide) rfl (fun ls hl => ?_)
    refine lv_iconst (v := (0 : Int32)) hx hb dX8_deal_55 (by decide) ?_
    refine lv_istore (lv' := [(5, .int (0 : Int32)), (4, .int (-1 : Int32)), (3, .int (-4 : Int32)), (2, .int v4), (0, .ref ax), (1, .int k)]) hx hb dX8_deal_56 hl (by decide) rfl (fun ls hl => ?_)
    have hL58 : ∀ (k58 : Int32 → Int32 → Int32 → Option Int32), (∀ (v7 : Int32) (v8 : Int32) (v9 : Int32) (H : Heap) (locs : List Loc), va_P D vwCl [(ax, .inr (8, [.int m_letterMany, .ref a_text, .int m_readAt, .ref a_told, .ref a_readLaw, .ref a_readNow, .ref a_law, .ref a_now, .ref a_tried, .int m_undoMany, .int m_undoAt, .ref a_undos, .int m_seenMany, .ref a_seenHour, .ref a_seenAt, .ref a_parts, .ref a_partsThen, .int m_keptMany, .ref a_kept])), (a_law, .inl (cI, 22, .inl m_law)), (a_now, .inl (cI, 26, .inl m_now))] H → va_D A [(ax, .inr (8, [.int m_letterMany, .ref a_text, .int m_readAt, .ref a_told, .ref a_readLaw, .ref a_readNow, .ref a_law, .ref a_now, .ref a_tried, .int m_undoMany, .int m_undoAt, .ref a_undos, .int m_seenMany, .ref a_seenHour, .ref a_seenAt, .ref a_parts, .ref a_partsThen, .int m_keptMany, .ref a_kept])), (a_law, .inl (cI, 22, .inl m_law)), (a_now, .inl (cI, 26, .inl m_now))] → va_S A s.heap H locs → ∀ ls : Array Slot, lv_has ls 7 [(4, .int v8), (3, .int v7), (0, .ref ax), (1, .int k)] → k58 v7 v8 v9 = some rr → W p l e rm_X8_deal s m args below meth c H locs 0 0 Q (F0 m 108 ls [])) → ∀ (nf58 : Nat) (v7 : Int32) (v8 : Int32) (v9 : Int32) (H : Heap) (locs : List Loc), va_P D vwCl [(ax, .inr (8, [.int m_letterMany, .ref a_text, .int m_readAt, .ref a_told, .ref a_readLaw, .ref a_readNow, .ref a_law, .ref a_now, .ref a_tried, .int m_undoMany, .int m_undoAt, .ref a_undos, .int m_seenMany, .ref a_seenHour, .ref a_seenAt, .ref a_parts, .ref a_partsThen, .int m_keptMany, .ref a_kept])), (a_law, .inl (cI, 22, .inl m_law)), (a_now, .inl (cI, 26, .inl m_now))] H → va_D A [(ax, .inr (8, [.int m_letterMany, .ref a_text, .int m_readAt, .ref a_told, .ref a_readLaw, .ref a_readNow, .ref a_law, .ref a_now, .ref a_tried, .int m_undoMany, .int m_undoAt, .ref a_undos, .int m_seenMany, .ref a_seenHour, .ref a_seenAt, .ref a_parts, .ref a_partsThen, .int m_keptMany, .ref a_kept])), (a_law, .inl (cI, 22, .inl m_law)), (a_now, .inl (cI, 26, .inl m_now))] → va_S A s.heap H locs → ∀ ls : Array Slot, lv_has ls 7 [(5, .int v9), (4, .int v8), (3, .int v7), (2, .int v4), (0, .ref ax), (1, .int k)] → f_X8_deal_L58 v4 m_law m_now k58 nf58 v7 v8 v9 = some rr → W p l e rm_X8_deal s m args below meth c H locs 0 0 Q (F0 m 58 ls []) := by
      intro k58 hk58 nf58
      induction nf58 with
      | zero =>
        intro v7 v8 v9 H locs hP hD hS ls hl hF
        rw [f_X8_deal_L58_0] at hF
        cases hF
      | succ nf58 ih58 =>
        intro v7 v8 v9 H locs hP hD hS ls hl hF
        rw [f_X8_deal_L58_s] at hF
        refine lv_iload hx hb dX8_deal_58 (lv_at hl 0 rfl) ?_
        refine lv_iload_n hx hb dX8_deal_60 rfl (lv_at hl 3 rfl) ?_
        refine lv_icmp_ge (tgt := 108) hx hb dX8_deal_61 (by decide) (fun c10 => ?_) (fun c10 => ?_)
        · have hF := op_pos c10 hF
          exact hk58 v7 v8 v9 _ _ hP hD hS _ (lv_sub hl [1, 2, 4, 5] rfl) hF
        · have hF := op_neg c10 hF
          refine lv_aload_n hx hb dX8_deal_64 rfl (lv_at hl 4 rfl) ?_
          refine lv_iload hx hb dX8_deal_65 (lv_at hl 0 rfl) ?_
          obtain ⟨r11, hb12, hF⟩ := op_bind hF
          refine xVr (As := [.int v9]) (rest := []) hC hP hD hS [0, 1, 2] (c_X8_worksBy l D cI cC cM ax a_law a_now a_text a_told a_readLaw a_readNow a_tried a_undos a_seenHour a_seenAt a_parts a_partsThen a_kept m_letterMany m_readAt m_undoMany m_undoAt m_seenMany m_keptMany m_law m_now v9 r11 hb12) (cwV 1 hts gX8_deal_X8_worksBy rfl rfl rfl ⟨rfl, pd_X8_worksBy⟩ ⟨Nat.le_of_ble_eq_true rfl, Nat.le_of_ble_eq_true rfl⟩) rfl rfl 0 8 rfl rfl rfl rfl hl.1 rfl (Nat.le_of_ble_eq_true rfl) dX8_deal_67 ⟨Nat.zero_le _, Nat.zero_le _⟩ (fun H locs hP hS => ?_)
          refine lv_istore (lv' := [(6, .int r11), (5, .int v9), (4, .int v8), (3, .int v7), (2, .int v4), (0, .ref ax), (1, .int k)]) hx hb dX8_deal_70 hl (by decide) rfl (fun ls hl => ?_)
          refine lv_iload hx hb dX8_deal_72 (lv_at hl 0 rfl) ?_
          refine lv_iload hx hb dX8_deal_74 (lv_at hl 2 rfl) ?_
          refine lv_icmp_le (tgt := 84) hx hb dX8_deal_76 (by decide) (fun c13 => ?_) (fun c13 => ?_)
          · have hF := op_pos c13 hF
            refine lv_iload_n hx hb dX8_deal_84 rfl (lv_at hl 3 rfl) ?_
            refine lv_istore_n (lv' := [(3, .int v7), (6, .int r11), (5, .int v9), (4, .int v8), (2, .int v4), (0, .ref ax), (1, .int k)]) hx hb dX8_deal_85 rfl hl (by decide) rfl (fun ls hl => ?_)
            refine lv_iload hx hb dX8_deal_86 (lv_at hl 1 rfl) ?_
            refine lv_iload hx hb dX8_deal_88 (lv_at hl 3 rfl) ?_
            refine lv_icmp_le (tgt := 98) hx hb dX8_deal_90 (by decide) (fun _ => ?_) (fun c => absurd c13 c)
            refine lv_iload hx hb dX8_deal_98 (lv_at hl 3 rfl) ?_
            refine lv_istore (lv' := [(4, .int v8), (3, .int v7), (6, .int r11), (5, .int v9), (2, .int v4), (0, .ref ax), (1, .int k)]) hx hb dX8_deal_100 hl (by decide) rfl (fun ls hl => ?_)
            refine lv_iinc (v := (v9 + (1 : Int32))) (lv' := [(5, .int (v9 + (1 : Int32))), (4, .int v8), (3, .int v7), (6, .int r11), (2, .int v4), (0, .ref ax), (1, .int k)]) hx hb dX8_deal_102 hl (k := 3) rfl (by first | rfl | decide) (by decide) rfl (fun ls hl => ?_)
            refine lv_goto (tgt := 58) hx hb dX8_deal_105 (by decide) ?_
            exact ih58 v7 v8 (v9 + (1 : Int32)) _ _ hP hD hS _ (lv_sub hl [0, 1, 2, 4, 5, 6] rfl) hF
          · have hF := op_neg c13 hF
            refine lv_iload hx hb dX8_deal_79 (lv_at hl 1 rfl) ?_
            refine lv_goto (tgt := 85) hx hb dX8_deal_81 (by decide) ?_
            refine lv_istore_n (lv' := [(3, .int v9), (6, .int r11), (5, .int v9), (4, .int v8), (2, .int v4), (0, .ref ax), (1, .int k)]) hx hb dX8_deal_85 rfl hl (by decide) rfl (fun ls hl => ?_)
            refine lv_iload hx hb dX8_deal_86 (lv_at hl 1 rfl) ?_
            refine lv_iload hx hb dX8_deal_88 (lv_at hl 3 rfl) ?_
            refine lv_icmp_le (tgt := 98) hx hb dX8_deal_90 (by decide) (fun c => absurd c c13) (fun _ => ?_)
            refine lv_iload hx hb dX8_deal_93 (lv_at hl 1 rfl) ?_
            refine lv_goto (tgt := 100) hx hb dX8_deal_95 (by decide) ?_
            refine lv_istore (lv' := [(4, .int r11), (3, .int v9), (6, .int r11), (5, .int v9), (2, .int v4), (0, .ref ax), (1, .int k)]) hx hb dX8_deal_100 hl (by decide) rfl (fun ls hl => ?_)
            refine lv_iinc (v := (v9 + (1 : Int32))) (lv' := [(5, .int (v9 + (1 : Int32))), (4, .int r11), (3, .int v9), (6, .int r11), (2, .int v4), (0, .ref ax), (1, .int k)]) hx hb dX8_deal_102 hl (k := 3) rfl (by first | rfl | decide) (by decide) rfl (fun ls hl => ?_)
            refine lv_goto (tgt := 58) hx hb dX8_deal_105 (by decide) ?_
            exact ih58 v9 r11 (v9 + (1 : Int32)) _ _ hP hD hS _ (lv_sub hl [0, 1, 2, 4, 5, 6] rfl) hF
    refine hL58 _ (fun v7 v8 v9 H locs hP hD hS ls hl hF => ?_) 20000 (-4 : Int32) (-1 : Int32) (0 : Int32) _ _ hP hD hS _ (lv_sub hl [0, 1, 2, 3, 4, 5] rfl) hF
    refine lv_iload_n hx hb dX8_deal_108 rfl (lv_at hl 3 rfl) ?_
    refine lv_if_ge (tgt := 117) hx hb dX8_deal_109 (by decide) (fun c14 => ?_) (fun c14 => ?_)
    · have hF := op_pos c14 hF
      refine lv_aload_n hx hb dX8_deal_117 rfl (lv_at hl 2 rfl) ?_
      refine lv_iload_n hx hb dX8_deal_118 rfl (lv_at hl 1 rfl) ?_
      refine lv_iload_n hx hb dX8_deal_119 rfl (lv_at hl 3 rfl) ?_
      obtain ⟨r15, hb16, hF⟩ := op_bind hF
      refine xVr (As := [.int v7, .int k]) (rest := []) hC hP hD hS [0, 1] (c_X8_dealt l D cI cC cM ax a_law a_text a_told a_readLaw a_readNow a_now a_tried a_undos a_seenHour a_seenAt a_parts a_partsThen a_kept m_letterMany m_readAt m_undoMany m_undoAt m_seenMany m_keptMany m_law v7 k r15 hb16) (cwV 2 hts gX8_deal_X8_dealt rfl rfl rfl ⟨rfl, pd_X8_dealt⟩ ⟨Nat.le_of_ble_eq_true rfl, Nat.le_of_ble_eq_true rfl⟩) rfl rfl 0 8 rfl rfl rfl rfl hl.1 rfl (Nat.le_of_ble_eq_true rfl) dX8_deal_120 ⟨Nat.zero_le _, Nat.zero_le _⟩ (fun H locs hP hS => ?_)
      refine lv_aload_n hx hb dX8_deal_123 rfl (lv_at hl 2 rfl) ?_
      refine va_get (D := D) (ci := 8) (v := .ref a_law) (C := RX8) (T := TX8) (N := 19) hx hb hts iX8 hown hK hP 0 rfl rfl 6 (by decide) k_f22 (fun _ h9 => h9) rfl dX8_deal_124 ?_
      refine lv_iconst (v := (1 : Int32)) hx hb dX8_deal_127 (by decide) ?_
      refine va_iald hx hb hK hP 1 0 rfl rfl (okb_in (by decide)) dX8_deal_128 ?_
      refine lv_icmp_ne (tgt := 137) hx hb dX8_deal_129 (by decide) (fun c17 => ?_) (fun c17 => ?_)
      · have hF := op_neg c17 hF
        refine lv_aload_n hx hb dX8_deal_137 rfl (lv_at hl 2 rfl) ?_
        refine lv_iload_n hx hb dX8_deal_138 rfl (lv_at hl 1 rfl) ?_
        refine lv_iload_n hx hb dX8_deal_139 rfl (lv_at hl 3 rfl) ?_
        obtain ⟨r18, hb19, hF⟩ := op_bind hF
        refine xVr (As := [.int v7, .int k]) (rest := []) hC hP hD hS [0, 1] (c_X8_dealt l D cI cC cM ax a_law a_text a_told a_readLaw a_readNow a_now a_tried a_undos a_seenHour a_seenAt a_parts a_partsThen a_kept m_letterMany m_readAt m_undoMany m_undoAt m_seenMany m_keptMany m_law v7 k r18 hb19) (cwV 2 hts gX8_deal_X8_dealt rfl rfl rfl ⟨rfl, pd_X8_dealt⟩ ⟨Nat.le_of_ble_eq_true rfl, Nat.le_of_ble_eq_true rfl⟩) rfl rfl 0 8 rfl rfl rfl rfl hl.1 rfl (Nat.le_of_ble_eq_true rfl) dX8_deal_140 ⟨Nat.zero_le _, Nat.zero_le _⟩ (fun H locs hP hS => ?_)
        cases hF
        rw [hQ]
        exact xri hC hP hS dX8_deal_143
      · have hF := op_pos c17 hF
        refine lv_bipush (v := (-4 : Int32)) hx hb dX8_deal_132 (by decide) ?_
        refine lv_goto (tgt := 143) hx hb dX8_deal_134 (by decide) ?_
        cases hF
        rw [hQ]
        exact xri hC hP hS dX8_deal_143
    · have hF := op_neg c14 hF
      refine lv_iload hx hb dX8_deal_112 (lv_at hl 0 rfl) ?_
      refine lv_goto (tgt := 143) hx hb dX8_deal_114 (by decide) ?_
      cases hF
      rw [hQ]
      exact xri hC hP hS dX8_deal_143
  · have hF := op_pos c3 hF
    refine lv_iconst (v := (-1 : Int32)) hx hb dX8_deal_16 (by decide) ?_
    cases hF
    rw [hQ]
    exact xri hC hP hS dX8_deal_17

def f_X8_make_L32 (m_law : (Nat → Int32)) (v5 : Int32) (m_now : (Nat → Int32)) (k32 : Int32 → Int32 → Option Int32) : Nat → Int32 → Int32 → Option Int32
  | 0, _, _ => none
  | nf32 + 1, v7, v8 => (if (m_law (1 : Int32).toNatClampNeg) ≤ v8 then (k32 v7 v8) else (Option.bind (f_X8_has v5 v8) fun r10 => (if r10 = 0 then (f_X8_make_L32 m_law v5 m_now k32 nf32 (v7 + (0 : Int32)) (v8 + (1 : Int32))) else (if okb ((4 : Int32) + v8) 26 = true then (f_X8_make_L32 m_law v5 m_now k32 nf32 (v7 + (m_now ((4 : Int32) + v8).toNatClampNeg)) (v8 + (1 : Int32))) else none))))
theorem f_X8_make_L32_0 (m_law : (Nat → Int32)) (v5 : Int32) (m_now : (Nat → Int32)) (k32 : Int32 → Int32 → Option Int32) (v7 : Int32) (v8 : Int32) : f_X8_make_L32 m_law v5 m_now k32 0 v7 v8 = none := rfl
theorem f_X8_make_L32_s (m_law : (Nat → Int32)) (v5 : Int32) (m_now : (Nat → Int32)) (k32 : Int32 → Int32 → Option Int32) (nf32 : Nat) (v7 : Int32) (v8 : Int32) : f_X8_make_L32 m_law v5 m_now k32 (nf32 + 1) v7 v8 = (if (m_law (1 : Int32).toNatClampNeg) ≤ v8 then (k32 v7 v8) else (Option.bind (f_X8_has v5 v8) fun r10 => (if r10 = 0 then (f_X8_make_L32 m_law v5 m_now k32 nf32 (v7 + (0 : Int32)) (v8 + (1 : Int32))) else (if okb ((4 : Int32) + v8) 26 = true then (f_X8_make_L32 m_law v5 m_now k32 nf32 (v7 + (m_now ((4 : Int32) + v8).toNatClampNeg)) (v8 + (1 : Int32))) else none)))) := rfl

def f_X8_make_L14 (m_law : (Nat → Int32)) (m_now : (Nat → Int32)) (h : Int32) (k14 : Int32 → Int32 → Option Int32) : Nat → Int32 → Int32 → Option Int32
  | 0, _, _ => none
  | nf14 + 1, v4, v5 => (if ((1 : Int32) <<< ((m_law (1 : Int32).toNatClampNeg) &&& 31)) ≤ v5 then (k14 v4 v5) else (f_X8_make_L32 m_law v5 m_now (fun (v7 : Int32) (v8 : Int32) => (if (jrem v7 (24 : Int32)) = h then (if v4 = (-4 : Int32) then (f_X8_make_L14 m_law m_now h k14 nf14 v5 (v5 + (1 : Int32))) else (Option.bind (f_X8_bits v5) fun r16 => (Option.bind (f_X8_bits v4) fun r18 => (if r18 ≤ r16 then (f_X8_make_L14 m_law m_now h k14 nf14 v4 (v5 + (1 : Int32))) else (f_X8_make_L14 m_law m_now h k14 nf14 v5 (v5 + (1 : Int32))))))) else (f_X8_make_L14 m_law m_now h k14 nf14 v4 (v5 + (1 : Int32))))) 20000 (0 : Int32) (0 : Int32)))
theorem f_X8_make_L14_0 (m_law : (Nat → Int32)) (m_now : (Nat → Int32)) (h : Int32) (k14 : Int32 → Int32 → Option Int32) (v4 : Int32) (v5 : Int32) : f_X8_make_L14 m_law m_now h k14 0 v4 v5 = none := rfl
theorem f_X8_make_L14_s (m_law : (Nat → Int32)) (m_now : (Nat → Int32)) (h : Int32) (k14 : Int32 → Int32 → Option Int32) (nf14 : Nat) (v4 : Int32) (v5 : Int32) : f_X8_make_L14 m_law m_now h k14 (nf14 + 1) v4 v5 = (if ((1 : Int32) <<< ((m_law (1 : Int32).toNatClampNeg) &&& 31)) ≤ v5 then (k14 v4 v5) else (f_X8_make_L32 m_law v5 m_now (fun (v7 : Int32) (v8 : Int32) => (if (jrem v7 (24 : Int32)) = h then (if v4 = (-4 : Int32) then (f_X8_make_L14 m_law m_now h k14 nf14 v5 (v5 + (1 : Int32))) else (Option.bind (f_X8_bits v5) fun r16 => (Option.bind (f_X8_bits v4) fun r18 => (if r18 ≤ r16 then (f_X8_make_L14 m_law m_now h k14 nf14 v4 (v5 + (1 : Int32))) else (f_X8_make_L14 m_law m_now h k14 nf14 v5 (v5 + (1 : Int32))))))) else (f_X8_make_L14 m_law m_now h k14 nf14 v4 (v5 + (1 : Int32))))) 20000 (0 : Int32) (0 : Int32))) := rfl

def f_X8_make (m_law : (Nat → Int32)) (m_now : (Nat → Int32)) (h : Int32) : Option Int32 := (Option.bind (f_X8_isHour h) fun r1 => (if r1 = 0 then (some (-1 : Int32)) else (f_X8_make_L14 m_law m_now h (fun (v4 : Int32) (v5 : Int32) => (some v4)) 20000 (-4 : Int32) (1 : Int32))))

def rm_X8_make : Room := { frames := 2, cells := 0, slots := 0, locals := 42 }

theorem pd_X8_make : yX8_make.cls ≠ "java/lang/invoke/MethodHandle" ∧ yX8_make.cls ≠ "java/lang/invoke/VarHandle" ∧ (parseMethodDescriptor yX8_make.desc).map (fun d => d.parameters.length) = some 1 := by decide +kernel

set_option maxHeartbeats 4000000 in
set_option maxRecDepth 100000 in
theorem c_X8_make (l : Launch) (D : va_G) (cI cC cM : ClassId) (ax a_law a_now a_text a_told a_readLaw a_readNow a_tried a_undos a_seenHour a_seenAt a_parts a_partsThen a_kept : Nat) (m_letterMany : Int32) (m_readAt : Int32) (m_undoMany : Int32) (m_undoAt : Int32) (m_seenMany : Int32) (m_keptMany : Int32) (m_law : (Nat → Int32)) (m_now : (Nat → Int32)) (h : Int32) (rr : Int32) (hF : f_X8_make m_law m_now h = some rr) : CI l D cI cC cM yX8_make wsX8_make rm_X8_make [.ref ax, .int h] [(ax, .inr (8, [.int m_letterMany, .ref a_text, .int m_readAt, .ref a_told, .ref a_readLaw, .ref a_readNow, .ref a_law, .ref a_now, .ref a_tried, .int m_undoMany, .int m_undoAt, .ref a_undos, .int m_seenMany, .ref a_seenHour, .ref a_seenAt, .ref a_parts, .ref a_partsThen, .int m_keptMany, .ref a_kept])), (a_law, .inl (cI, 22, .inl m_law)), (a_now, .inl (cI, 26, .inl m_now))] [(ax, .inr (8, [.int m_letterMany, .ref a_text, .int m_readAt, .ref a_told, .ref a_readLaw, .ref a_readNow, .ref a_law, .ref a_now, .ref a_tried, .int m_undoMany, .int m_undoAt, .ref a_undos, .int m_seenMany, .ref a_seenHour, .ref a_seenAt, .ref a_parts, .ref a_partsThen, .int m_keptMany, .ref a_kept])), (a_law, .inl (cI, 22, .inl m_law)), (a_now, .inl (cI, 26, .inl m_now))] rr := by
  refine CI.of (cc := cX8_make) (nL := 6) (ret := (some .int)) (by decide) rfl (Nat.le_of_ble_eq_true rfl) ?_
  intro p e s m args below meth c A hC hP hD hS ls hl
  obtain ⟨hx, hb, hml, hown, hts, hr, hlk, hG, hA⟩ := id hC
  have hown : s.vm.findClass RX8 = some m.cls := hown
  have hK := hG.1
  have hl : lv_has ls 6 [(0, .ref ax), (1, .int h)] := hl
  have k_f22 := hts (.fieldLink RX8 22 "ParasolHoursModel" "law" "[I") (List.mem_of_getElem? (i := 1) rfl)
  have k_f25 := hts (.fieldLink RX8 25 "ParasolHoursModel" "now" "[I") (List.mem_of_getElem? (i := 2) rfl)
  have iX8 : ∀ w ∈ wsX80, w ∈ wsX8_make := by decide +kernel
  obtain ⟨Q, hQ⟩ : ∃ Q, Q = MQ below (QI D [(ax, .inr (8, [.int m_letterMany, .ref a_text, .int m_readAt, .ref a_told, .ref a_readLaw, .ref a_readNow, .ref a_law, .ref a_now, .ref a_tried, .int m_undoMany, .int m_undoAt, .ref a_undos, .int m_seenMany, .ref a_seenHour, .ref a_seenAt, .ref a_parts, .ref a_partsThen, .int m_keptMany, .ref a_kept])), (a_law, .inl (cI, 22, .inl m_law)), (a_now, .inl (cI, 26, .inl m_now))] rr A) args s 0 0 A := ⟨_, rfl⟩
  rw [← hQ]
  unfold f_X8_make at hF
  refine lv_iload_n hx hb dX8_make_0 rfl (lv_at hl 1 rfl) ?_
  obtain ⟨r1, hb2, hF⟩ := op_bind hF
  refine xSr (As := [.int h]) (rest := []) hC hP hD hS [] (c_X8_isHour l D cI cC cM h r1 hb2) (va_cwS 1 hts gX8_make_X8_isHour rfl rfl rfl pd_X8_isHour ⟨Nat.le_of_ble_eq_true rfl, Nat.le_of_ble_eq_true rfl⟩) rfl rfl rfl hl.1 rfl (Nat.le_of_ble_eq_true rfl) dX8_make_1 ⟨Nat.zero_le _, Nat.zero_le _⟩ (fun H locs hP hS => ?_)
  refine lv_if_ne (tgt := 9) hx hb dX8_make_4 (by decide) (fun c3 => ?_) (fun c3 => ?_)
  · have hF := op_neg c3 hF
    refine lv_bipush (v := (-4 : Int32)) hx hb dX8_make_9 (by decide) ?_
    refine lv_istore_n (lv' := [(2, .int (-4 : Int32)), (0, .ref ax), (1, .int h)]) hx hb dX8_make_11 rfl hl (by decide) rfl (fun ls hl => ?_)
    refine lv_iconst (v := (1 : Int32)) hx hb dX8_make_12 (by decide) ?_
    refine lv_istore_n (lv' := [(3, .int (1 : Int32)), (2, .int (-4 : Int32)), (0, .ref ax), (1, .int h)]) hx hb dX8_make_13 rfl hl (by decide) rfl (fun ls hl => ?_)
    have hL14 : ∀ (k14 : Int32 → Int32 → Option Int32), (∀ (v4 : Int32) (v5 : Int32) (H : Heap) (locs : List Loc), va_P D vwCl [(ax, .inr (8, [.int m_letterMany, .ref a_text, .int m_readAt, .ref a_told, .ref a_readLaw, .ref a_readNow, .ref a_law, .ref a_now, .ref a_tried, .int m_undoMany, .int m_undoAt, .ref a_undos, .int m_seenMany, .ref a_seenHour, .ref a_seenAt, .ref a_parts, .ref a_partsThen, .int m_keptMany, .ref a_kept])), (a_law, .inl (cI, 22, .inl m_law)), (a_now, .inl (cI, 26, .inl m_now))] H → va_D A [(ax, .inr (8, [.int m_letterMany, .ref a_text, .int m_readAt, .ref a_told, .ref a_readLaw, .ref a_readNow, .ref a_law, .ref a_now, .ref a_tried, .int m_undoMany, .int m_undoAt, .ref a_undos, .int m_seenMany, .ref a_seenHour, .ref a_seenAt, .ref a_parts, .ref a_partsThen, .int m_keptMany, .ref a_kept])), (a_law, .inl (cI, 22, .inl m_law)), (a_now, .inl (cI, 26, .inl m_now))] → va_S A s.heap H locs → ∀ ls : Array Slot, lv_has ls 6 [(2, .int v4)] → k14 v4 v5 = some rr → W p l e rm_X8_make s m args below meth c H locs 0 0 Q (F0 m 114 ls [])) → ∀ (nf14 : Nat) (v4 : Int32) (v5 : Int32) (H : Heap) (locs : List Loc), va_P D vwCl [(ax, .inr (8, [.int m_letterMany, .ref a_text, .int m_readAt, .ref a_told, .ref a_readLaw, .ref a_readNow, .ref a_law, .ref a_now, .ref a_tried, .int m_undoMany, .int m_undoAt, .ref a_undos, .int m_seenMany, .ref a_seenHour, .ref a_seenAt, .ref a_parts, .ref a_partsThen, .int m_keptMany, .ref a_kept])), (a_law, .inl (cI, 22, .inl m_law)), (a_now, .inl (cI, 26, .inl m_now))] H → va_D A [(ax, .inr (8, [.int m_letterMany, .ref a_text, .int m_readAt, .ref a_told, .ref a_readLaw, .ref a_readNow, .ref a_law, .ref a_now, .ref a_tried, .int m_undoMany, .int m_undoAt, .ref a_undos, .int m_seenMany, .ref a_seenHour, .ref a_seenAt, .ref a_parts, .ref a_partsThen, .int m_keptMany, .ref a_kept])), (a_law, .inl (cI, 22, .inl m_law)), (a_now, .inl (cI, 26, .inl m_now))] → va_S A s.heap H locs → ∀ ls : Array Slot, lv_has ls 6 [(3, .int v5), (2, .int v4), (0, .ref ax), (1, .int h)] → f_X8_make_L14 m_law m_now h k14 nf14 v4 v5 = some rr → W p l e rm_X8_make s m args below meth c H locs 0 0 Q (F0 m 14 ls []) := by
      intro k14 hk14 nf14
      induction nf14 with
      | zero =>
        intro v4 v5 H locs hP hD hS ls hl hF
        rw [f_X8_make_L14_0] at hF
        cases hF
      | succ nf14 ih14 =>
        intro v4 v5 H locs hP hD hS ls hl hF
        rw [f_X8_make_L14_s] at hF
        refine lv_iload_n hx hb dX8_make_14 rfl (lv_at hl 0 rfl) ?_
        refine lv_iconst (v := (1 : Int32)) hx hb dX8_make_15 (by decide) ?_
        refine lv_aload_n hx hb dX8_make_16 rfl (lv_at hl 2 rfl) ?_
        refine va_get (D := D) (ci := 8) (v := .ref a_law) (C := RX8) (T := TX8) (N := 19) hx hb hts iX8 hown hK hP 0 rfl rfl 6 (by decide) k_f22 (fun _ h9 => h9) rfl dX8_make_17 ?_
        refine lv_iconst (v := (1 : Int32)) hx hb dX8_make_20 (by decide) ?_
        refine va_iald hx hb hK hP 1 0 rfl rfl (okb_in (by decide)) dX8_make_21 ?_
        refine lv_ishl hx hb dX8_make_22 ?_
        refine lv_icmp_ge (tgt := 114) hx hb dX8_make_23 (by decide) (fun c6 => ?_) (fun c6 => ?_)
        · have hF := op_pos c6 hF
          exact hk14 v4 v5 _ _ hP hD hS _ (lv_sub hl [1] rfl) hF
        · have hF := op_neg c6 hF
          refine lv_iconst (v := (0 : Int32)) hx hb dX8_make_26 (by decide) ?_
          refine lv_istore (lv' := [(4, .int (0 : Int32)), (3, .int v5), (2, .int v4), (0, .ref ax), (1, .int h)]) hx hb dX8_make_27 hl (by decide) rfl (fun ls hl => ?_)
          refine lv_iconst (v := (0 : Int32)) hx hb dX8_make_29 (by decide) ?_
          refine lv_istore (lv' := [(5, .int (0 : Int32)), (4, .int (0 : Int32)), (3, .int v5), (2, .int v4), (0, .ref ax), (1, .int h)]) hx hb dX8_make_30 hl (by decide) rfl (fun ls hl => ?_)
          have hL32 : ∀ (k32 : Int32 → Int32 → Option Int32), (∀ (v7 : Int32) (v8 : Int32) (H : Heap) (locs : List Loc), va_P D vwCl [(ax, .inr (8, [.int m_letterMany, .ref a_text, .int m_readAt, .ref a_told, .ref a_readLaw, .ref a_readNow, .ref a_law, .ref a_now, .ref a_tried, .int m_undoMany, .int m_undoAt, .ref a_undos, .int m_seenMany, .ref a_seenHour, .ref a_seenAt, .ref a_parts, .ref a_partsThen, .int m_keptMany, .ref a_kept])), (a_law, .inl (cI, 22, .inl m_law)), (a_now, .inl (cI, 26, .inl m_now))] H → va_D A [(ax, .inr (8, [.int m_letterMany, .ref a_text, .int m_readAt, .ref a_told, .ref a_readLaw, .ref a_readNow, .ref a_law, .ref a_now, .ref a_tried, .int m_undoMany, .int m_undoAt, .ref a_undos, .int m_seenMany, .ref a_seenHour, .ref a_seenAt, .ref a_parts, .ref a_partsThen, .int m_keptMany, .ref a_kept])), (a_law, .inl (cI, 22, .inl m_law)), (a_now, .inl (cI, 26, .inl m_now))] → va_S A s.heap H locs → ∀ ls : Array Slot, lv_has ls 6 [(4, .int v7), (3, .int v5), (2, .int v4), (0, .ref ax), (1, .int h)] → k32 v7 v8 = some rr → W p l e rm_X8_make s m args below meth c H locs 0 0 Q (F0 m 76 ls [])) → ∀ (nf32 : Nat) (v7 : Int32) (v8 : Int32) (H : Heap) (locs : List Loc), va_P D vwCl [(ax, .inr (8, [.int m_letterMany, .ref a_text, .int m_readAt, .ref a_told, .ref a_readLaw, .ref a_readNow, .ref a_law, .ref a_now, .ref a_tried, .int m_undoMany, .int m_undoAt, .ref a_undos, .int m_seenMany, .ref a_seenHour, .ref a_seenAt, .ref a_parts, .ref a_partsThen, .int m_keptMany, .ref a_kept])), (a_law, .inl (cI, 22, .inl m_law)), (a_now, .inl (cI, 26, .inl m_now))] H → va_D A [(ax, .inr (8, [.int m_letterMany, .ref a_text, .int m_readAt, .ref a_told, .ref a_readLaw, .ref a_readNow, .ref a_law, .ref a_now, .ref a_tried, .int m_undoMany, .int m_undoAt, .ref a_undos, .int m_seenMany, .ref a_seenHour, .ref a_seenAt, .ref a_parts, .ref a_partsThen, .int m_keptMany, .ref a_kept])), (a_law, .inl (cI, 22, .inl m_law)), (a_now, .inl (cI, 26, .inl m_now))] → va_S A s.heap H locs → ∀ ls : Array Slot, lv_has ls 6 [(5, .int v8), (4, .int v7), (3, .int v5), (2, .int v4), (0, .ref ax), (1, .int h)] → f_X8_make_L32 m_law v5 m_now k32 nf32 v7 v8 = some rr → W p l e rm_X8_make s m args below meth c H locs 0 0 Q (F0 m 32 ls []) := by
            intro k32 hk32 nf32
            induction nf32 with
            | zero =>
              intro v7 v8 H locs hP hD hS ls hl hF
              rw [f_X8_make_L32_0] at hF
              cases hF
            | succ nf32 ih32 =>
              intro v7 v8 H locs hP hD hS ls hl hF
              rw [f_X8_make_L32_s] at hF
              refine lv_iload hx hb dX8_make_32 (lv_at hl 0 rfl) ?_
              refine lv_aload_n hx hb dX8_make_34 rfl (lv_at hl 4 rfl) ?_
              refine va_get (D := D) (ci := 8) (v := .ref a_law) (C := RX8) (T := TX8) (N := 19) hx hb hts iX8 hown hK hP 0 rfl rfl 6 (by decide) k_f22 (fun _ h9 => h9) rfl dX8_make_35 ?_
              refine lv_iconst (v := (1 : Int32)) hx hb dX8_make_38 (by decide) ?_
              refine va_iald hx hb hK hP 1 0 rfl rfl (okb_in (by decide)) dX8_make_39 ?_
              refine lv_icmp_ge (tgt := 76) hx hb dX8_make_40 (by decide) (fun c9 => ?_) (fun c9 => ?_)
              · have hF := op_pos c9 hF
                exact hk32 v7 v8 _ _ hP hD hS _ (lv_sub hl [1, 2, 3, 4, 5] rfl) hF
              · have hF := op_neg c9 hF
                refine lv_iload hx hb dX8_make_43 (lv_at hl 1 rfl) ?_
                refine lv_iload_n hx hb dX8_make_45 rfl (lv_at hl 2 rfl) ?_
                refine lv_iload hx hb dX8_make_46 (lv_at hl 0 rfl) ?_
                obtain ⟨r10, hb11, hF⟩ := op_bind hF
                refine xSr (As := [.int v5, .int v8]) (rest := [.int v7]) hC hP hD hS [] (c_X8_has l D cI cC cM v5 v8 r10 hb11) (va_cwS 2 hts gX8_make_X8_has rfl rfl rfl pd_X8_has ⟨Nat.le_of_ble_eq_true rfl, Nat.le_of_ble_eq_true rfl⟩) rfl rfl rfl hl.1 rfl (Nat.le_of_ble_eq_true rfl) dX8_make_48 ⟨Nat.zero_le _, Nat.zero_le _⟩ (fun H locs hP hS => ?_)
                refine lv_if_eq (tgt := 66) hx hb dX8_make_51 (by decide) (fun c12 => ?_) (fun c12 => ?_)
                · have hF := op_pos c12 hF
                  refine lv_iconst (v := (0 : Int32)) hx hb dX8_make_66 (by decide) ?_
                  refine lv_iadd hx hb dX8_make_67 ?_
                  refine lv_istore (lv' := [(4, .int (v7 + (0 : Int32))), (5, .int v8), (3, .int v5), (2, .int v4), (0, .ref ax), (1, .int h)]) hx hb dX8_make_68 hl (by decide) rfl (fun ls hl => ?_)
                  refine lv_iinc (v := (v8 + (1 : Int32))) (lv' := [(5, .int (v8 + (1 : Int32))), (4, .int (v7 + (0 : Int32))), (3, .int v5), (2, .int v4), (0, .ref ax), (1, .int h)]) hx hb dX8_make_70 hl (k := 1) rfl (by first | rfl | decide) (by decide) rfl (fun ls hl => ?_)
                  refine lv_goto (tgt := 32) hx hb dX8_make_73 (by decide) ?_
                  exact ih32 (v7 + (0 : Int32)) (v8 + (1 : Int32)) _ _ hP hD hS _ (lv_sub hl [0, 1, 2, 3, 4, 5] rfl) hF
                · have hF := op_neg c12 hF
                  refine lv_aload_n hx hb dX8_make_54 rfl (lv_at hl 4 rfl) ?_
                  refine va_get (D := D) (ci := 8) (v := .ref a_now) (C := RX8) (T := TX8) (N := 19) hx hb hts iX8 hown hK hP 0 rfl rfl 7 (by decide) k_f25 (fun _ h9 => h9) rfl dX8_make_55 ?_
                  refine lv_iconst (v := (4 : Int32)) hx hb dX8_make_58 (by decide) ?_
                  refine lv_iload hx hb dX8_make_59 (lv_at hl 0 rfl) ?_
                  refine lv_iadd hx hb dX8_make_61 ?_
                  obtain ⟨o13, hF⟩ := op_ob hF
                  refine va_iald hx hb hK hP 2 0 rfl rfl (okb_in o13) dX8_make_62 ?_
                  refine lv_goto (tgt := 67) hx hb dX8_make_63 (by decide) ?_
                  refine lv_iadd hx hb dX8_make_67 ?_
                  refine lv_istore (lv' := [(4, .int (v7 + (m_now ((4 : Int32) + v8).toNatClampNeg))), (5, .int v8), (3, .int v5), (2, .int v4), (0, .ref ax), (1, .int h)]) hx hb dX8_make_68 hl (by decide) rfl (fun ls hl => ?_)
                  refine lv_iinc (v := (v8 + (1 : Int32))) (lv' := [(5, .int (v8 + (1 : Int32))), (4, .int (v7 + (m_now ((4 : Int32) + v8).toNatClampNeg))), (3, .int v5), (2, .int v4), (0, .ref ax), (1, .int h)]) hx hb dX8_make_70 hl (k := 1) rfl (by first | rfl | decide) (by decide) rfl (fun ls hl => ?_)
                  refine lv_goto (tgt := 32) hx hb dX8_make_73 (by decide) ?_
                  exact ih32 (v7 + (m_now ((4 : Int32) + v8).toNatClampNeg)) (v8 + (1 : Int32)) _ _ hP hD hS _ (lv_sub hl [0, 1, 2, 3, 4, 5] rfl) hF
          refine hL32 _ (fun v7 v8 H locs hP hD hS ls hl hF => ?_) 20000 (0 : Int32) (0 : Int32) _ _ hP hD hS _ (lv_sub hl [0, 1, 2, 3, 4, 5] rfl) hF
          refine lv_iload hx hb dX8_make_76 (lv_at hl 0 rfl) ?_
          refine lv_bipush (v := (24 : Int32)) hx hb dX8_make_78 (by decide) ?_
          refine lv_irem hx hb dX8_make_80 (by decide) ?_
          refine lv_iload_n hx hb dX8_make_81 rfl (lv_at hl 4 rfl) ?_
          refine lv_icmp_ne (tgt := 106) hx hb dX8_make_82 (by decide) (fun c14 => ?_) (fun c14 => ?_)
          · have hF := op_neg c14 hF
            refine lv_iload_n hx hb dX8_make_106 rfl (lv_at hl 2 rfl) ?_
            refine lv_istore_n (lv' := [(2, .int v4), (4, .int v7), (3, .int v5), (0, .ref ax), (1, .int h)]) hx hb dX8_make_107 rfl hl (by decide) rfl (fun ls hl => ?_)
            refine lv_iinc (v := (v5 + (1 : Int32))) (lv' := [(3, .int (v5 + (1 : Int32))), (2, .int v4), (4, .int v7), (0, .ref ax), (1, .int h)]) hx hb dX8_make_108 hl (k := 2) rfl (by first | rfl | decide) (by decide) rfl (fun ls hl => ?_)
            refine lv_goto (tgt := 14) hx hb dX8_make_111 (by decide) ?_
            exact ih14 v4 (v5 + (1 : Int32)) _ _ hP hD hS _ (lv_sub hl [0, 1, 3, 4] rfl) hF
          · have hF := op_pos c14 hF
            refine lv_iload_n hx hb dX8_make_85 rfl (lv_at hl 2 rfl) ?_
            refine lv_bipush (v := (-4 : Int32)) hx hb dX8_make_86 (by decide) ?_
            refine lv_icmp_eq (tgt := 102) hx hb dX8_make_88 (by decide) (fun c15 => ?_) (fun c15 => ?_)
            · have hF := op_pos c15 hF
              refine lv_iload_n hx hb dX8_make_102 rfl (lv_at hl 1 rfl) ?_
              refine lv_goto (tgt := 107) hx hb dX8_make_103 (by decide) ?_
              refine lv_istore_n (lv' := [(2, .int v5), (4, .int v7), (3, .int v5), (0, .ref ax), (1, .int h)]) hx hb dX8_make_107 rfl hl (by decide) rfl (fun ls hl => ?_)
              refine lv_iinc (v := (v5 + (1 : Int32))) (lv' := [(3, .int (v5 + (1 : Int32))), (2, .int v5), (4, .int v7), (0, .ref ax), (1, .int h)]) hx hb dX8_make_108 hl (k := 2) rfl (by first | rfl | decide) (by decide) rfl (fun ls hl => ?_)
              refine lv_goto (tgt := 14) hx hb dX8_make_111 (by decide) ?_
              exact ih14 v5 (v5 + (1 : Int32)) _ _ hP hD hS _ (lv_sub hl [0, 1, 3, 4] rfl) hF
            · have hF := op_neg c15 hF
              refine lv_iload_n hx hb dX8_make_91 rfl (lv_at hl 1 rfl) ?_
              obtain ⟨r16, hb17, hF⟩ := op_bind hF
              refine xSr (As := [.int v5]) (rest := []) hC hP hD hS [] (c_X8_bits l D cI cC cM v5 r16 hb17) (va_cwS 1 hts gX8_make_X8_bits rfl rfl rfl pd_X8_bits ⟨Nat.le_of_ble_eq_true rfl, Nat.le_of_ble_eq_true rfl⟩) rfl rfl rfl hl.1 rfl (Nat.le_of_ble_eq_true rfl) dX8_make_92 ⟨Nat.zero_le _, Nat.zero_le _⟩ (fun H locs hP hS => ?_)
              refine lv_iload_n hx hb dX8_make_95 rfl (lv_at hl 2 rfl) ?_
              obtain ⟨r18, hb19, hF⟩ := op_bind hF
              refine xSr (As := [.int v4]) (rest := [.int r16]) hC hP hD hS [] (c_X8_bits l D cI cC cM v4 r18 hb19) (va_cwS 1 hts gX8_make_X8_bits rfl rfl rfl pd_X8_bits ⟨Nat.le_of_ble_eq_true rfl, Nat.le_of_ble_eq_true rfl⟩) rfl rfl rfl hl.1 rfl (Nat.le_of_ble_eq_true rfl) dX8_make_96 ⟨Nat.zero_le _, Nat.zero_le _⟩ (fun H locs hP hS => ?_)
              refine lv_icmp_ge (tgt := 106) hx hb dX8_make_99 (by decide) (fun c20 => ?_) (fun c20 => ?_)
              · have hF := op_pos c20 hF
                refine lv_iload_n hx hb dX8_make_106 rfl (lv_at hl 2 rfl) ?_
                refine lv_istore_n (lv' := [(2, .int v4), (4, .int v7), (3, .int v5), (0, .ref ax), (1, .int h)]) hx hb dX8_make_107 rfl hl (by decide) rfl (fun ls hl => ?_)
                refine lv_iinc (v := (v5 + (1 : Int32))) (lv' := [(3, .int (v5 + (1 : Int32))), (2, .int v4), (4, .int v7), (0, .ref ax), (1, .int h)]) hx hb dX8_make_108 hl (k := 2) rfl (by first | rfl | decide) (by decide) rfl (fun ls hl => ?_)
                refine lv_goto (tgt := 14) hx hb dX8_make_111 (by decide) ?_
                exact ih14 v4 (v5 + (1 : Int32)) _ _ hP hD hS _ (lv_sub hl [0, 1, 3, 4] rfl) hF
              · have hF := op_neg c20 hF
                refine lv_iload_n hx hb dX8_make_102 rfl (lv_at hl 1 rfl) ?_
                refine lv_goto (tgt := 107) hx hb dX8_make_103 (by decide) ?_
                refine lv_istore_n (lv' := [(2, .int v5), (4, .int v7), (3, .int v5), (0, .ref ax), (1, .int h)]) hx hb dX8_make_107 rfl hl (by decide) rfl (fun ls hl => ?_)
                refine lv_iinc (v := (v5 + (1 : Int32))) (lv' := [(3, .int (v5 + (1 : Int32))), (2, .int v5), (4, .int v7), (0, .ref ax), (1, .int h)]) hx hb dX8_make_108 hl (k := 2) rfl (by first | rfl | decide) (by decide) rfl (fun ls hl => ?_)
                refine lv_goto (tgt := 14) hx hb dX8_make_111 (by decide) ?_
                exact ih14 v5 (v5 + (1 : Int32)) _ _ hP hD hS _ (lv_sub hl [0, 1, 3, 4] rfl) hF
    refine hL14 _ (fun v4 v5 H locs hP hD hS ls hl hF => ?_) 20000 (-4 : Int32) (1 : Int32) _ _ hP hD hS _ (lv_sub hl [0, 1, 2, 3] rfl) hF
    refine lv_iload_n hx hb dX8_make_114 rfl (lv_at hl 0 rfl) ?_
    cases hF
    rw [hQ]
    exact xri hC hP hS dX8_make_115
  · have hF := op_pos c3 hF
    refine lv_iconst (v := (-1 : Int32)) hx hb dX8_make_7 (by decide) ?_
    cases hF
    rw [hQ]
    exact xri hC hP hS dX8_make_8

def f_X8_still_L18 (n : Int32) (m_law : (Nat → Int32)) (k18 : Int32 → (Nat → Int32) → Option (Int32 × (Nat → Int32))) : Nat → Int32 → (Nat → Int32) → Option (Int32 × (Nat → Int32))
  | 0, _, _ => none
  | nf18 + 1, v6, m_tried_7 => (if n ≤ v6 then (k18 v6 m_tried_7) else (Option.bind (f_X8_goes m_law m_tried_7) fun o_9 => (f_X8_still_L18 n m_law k18 nf18 (v6 + (1 : Int32)) o_9)))
theorem f_X8_still_L18_0 (n : Int32) (m_law : (Nat → Int32)) (k18 : Int32 → (Nat → Int32) → Option (Int32 × (Nat → Int32))) (v6 : Int32) (m_tried_7 : (Nat → Int32)) : f_X8_still_L18 n m_law k18 0 v6 m_tried_7 = none := rfl
theorem f_X8_still_L18_s (n : Int32) (m_law : (Nat → Int32)) (k18 : Int32 → (Nat → Int32) → Option (Int32 × (Nat → Int32))) (nf18 : Nat) (v6 : Int32) (m_tried_7 : (Nat → Int32)) : f_X8_still_L18 n m_law k18 (nf18 + 1) v6 m_tried_7 = (if n ≤ v6 then (k18 v6 m_tried_7) else (Option.bind (f_X8_goes m_law m_tried_7) fun o_9 => (f_X8_still_L18 n m_law k18 nf18 (v6 + (1 : Int32)) o_9))) := rfl

def f_X8_still (m_law : (Nat → Int32)) (m_now : (Nat → Int32)) (m_tried : (Nat → Int32)) (n : Int32) : Option (Int32 × (Nat → Int32)) := (Option.bind (f_X8_in n (0 : Int32) (48 : Int32)) fun r1 => (if r1 = 0 then (some ((-1 : Int32), m_tried)) else (Option.bind (f_X8_copyNow m_now m_tried) fun m_tried_4 => (f_X8_still_L18 n m_law (fun (v6 : Int32) (m_tried_7 : (Nat → Int32)) => (some ((m_tried_7 (3 : Int32).toNatClampNeg), m_tried_7))) 20000 (0 : Int32) m_tried_4))))

def rm_X8_still : Room := { frames := 4, cells := 0, slots := 0, locals := 90 }

theorem pd_X8_still : yX8_still.cls ≠ "java/lang/invoke/MethodHandle" ∧ yX8_still.cls ≠ "java/lang/invoke/VarHandle" ∧ (parseMethodDescriptor yX8_still.desc).map (fun d => d.parameters.length) = some 1 := by decide +kernel

set_option maxHeartbeats 4000000 in
set_option maxRecDepth 100000 in
theorem c_X8_still (l : Launch) (D : va_G) (cI cC cM : ClassId) (ax a_law a_now a_tried a_text a_told a_readLaw a_readNow a_undos a_seenHour a_seenAt a_parts a_partsThen a_kept : Nat) (m_letterMany : Int32) (m_readAt : Int32) (m_undoMany : Int32) (m_undoAt : Int32) (m_seenMany : Int32) (m_keptMany : Int32) (m_law : (Nat → Int32)) (m_now : (Nat → Int32)) (m_tried : (Nat → Int32)) (n : Int32) (rr : Int32) (m_tried' : (Nat → Int32)) (hF : f_X8_still m_law m_now m_tried n = some (rr, m_tried')) : CI l D cI cC cM yX8_still wsX8_still rm_X8_still [.ref ax, .int n] [(ax, .inr (8, [.int m_letterMany, .ref a_text, .int m_readAt, .ref a_told, .ref a_readLaw, .ref a_readNow, .ref a_law, .ref a_now, .ref a_tried, .int m_undoMany, .int m_undoAt, .ref a_undos, .int m_seenMany, .ref a_seenHour, .ref a_seenAt, .ref a_parts, .ref a_partsThen, .int m_keptMany, .ref a_kept])), (a_law, .inl (cI, 22, .inl m_law)), (a_now, .inl (cI, 26, .inl m_now)), (a_tried, .inl (cI, 26, .inl m_tried))] [(ax, .inr (8, [.int m_letterMany, .ref a_text, .int m_readAt, .ref a_told, .ref a_readLaw, .ref a_readNow, .ref a_law, .ref a_now, .ref a_tried, .int m_undoMany, .int m_undoAt, .ref a_undos, .int m_seenMany, .ref a_seenHour, .ref a_seenAt, .ref a_parts, .ref a_partsThen, .int m_keptMany, .ref a_kept])), (a_law, .inl (cI, 22, .inl m_law)), (a_now, .inl (cI, 26, .inl m_now)), (a_tried, .inl (cI, 26, .inl m_tried'))] rr := by
  refine CI.of (cc := cX8_still) (nL := 3) (ret := (some .int)) (by decide) rfl (Nat.le_of_ble_eq_true rfl) ?_
  intro p e s m args below meth c A hC hP hD hS ls hl
  obtain ⟨hx, hb, hml, hown, hts, hr, hlk, hG, hA⟩ := id hC
  have hown : s.vm.findClass RX8 = some m.cls := hown
  have hK := hG.1
  have hl : lv_has ls 3 [(0, .ref ax), (1, .int n)] := hl
  have k_f28 := hts (.fieldLink RX8 28 "ParasolHoursModel" "tried" "[I") (List.mem_of_getElem? (i := 1) rfl)
  have iX8 : ∀ w ∈ wsX80, w ∈ wsX8_still := by decide +kernel
  obtain ⟨Q, hQ⟩ : ∃ Q, Q = MQ below (QI D [(ax, .inr (8, [.int m_letterMany, .ref a_text, .int m_readAt, .ref a_told, .ref a_readLaw, .ref a_readNow, .ref a_law, .ref a_now, .ref a_tried, .int m_undoMany, .int m_undoAt, .ref a_undos, .int m_seenMany, .ref a_seenHour, .ref a_seenAt, .ref a_parts, .ref a_partsThen, .int m_keptMany, .ref a_kept])), (a_law, .inl (cI, 22, .inl m_law)), (a_now, .inl (cI, 26, .inl m_now)), (a_tried, .inl (cI, 26, .inl m_tried'))] rr A) args s 0 0 A := ⟨_, rfl⟩
  rw [← hQ]
  unfold f_X8_still at hF
  refine lv_iload_n hx hb dX8_still_0 rfl (lv_at hl 1 rfl) ?_
  refine lv_iconst (v := (0 : Int32)) hx hb dX8_still_1 (by decide) ?_
  refine lv_bipush (v := (48 : Int32)) hx hb dX8_still_2 (by decide) ?_
  obtain ⟨r1, hb2, hF⟩ := op_bind hF
  refine xSr (As := [.int n, .int (0 : Int32), .int (48 : Int32)]) (rest := []) hC hP hD hS [] (c_X8_in l D cI cC cM n (0 : Int32) (48 : Int32) r1 hb2) (va_cwS 3 hts gX8_still_X8_in rfl rfl rfl pd_X8_in ⟨Nat.le_of_ble_eq_true rfl, Nat.le_of_ble_eq_true rfl⟩) rfl rfl rfl hl.1 rfl (Nat.le_of_ble_eq_true rfl) dX8_still_4 ⟨Nat.zero_le _, Nat.zero_le _⟩ (fun H locs hP hS => ?_)
  refine lv_if_ne (tgt := 12) hx hb dX8_still_7 (by decide) (fun c3 => ?_) (fun c3 => ?_)
  · have hF := op_neg c3 hF
    refine lv_aload_n hx hb dX8_still_12 rfl (lv_at hl 0 rfl) ?_
    obtain ⟨m_tried_4, hb5, hF⟩ := op_bind hF
    refine xVv (As := []) (rest := []) hC hP hD hS [0, 2, 3] (c_X8_copyNow l D cI cC cM ax a_now a_tried a_text a_told a_readLaw a_readNow a_law a_undos a_seenHour a_seenAt a_parts a_partsThen a_kept m_letterMany m_readAt m_undoMany m_undoAt m_seenMany m_keptMany m_now m_tried m_tried_4 hb5) (cwV 0 hts gX8_still_X8_copyNow rfl rfl rfl ⟨rfl, pd_X8_copyNow⟩ ⟨Nat.le_of_ble_eq_true rfl, Nat.le_of_ble_eq_true rfl⟩) rfl rfl rfl 0 8 rfl rfl rfl rfl hl.1 rfl (Nat.le_of_ble_eq_true rfl) dX8_still_13 ⟨Nat.zero_le _, Nat.zero_le _⟩ (fun H locs hP hD hS => ?_)
    have hP : va_P D vwCl [(ax, .inr (8, [.int m_letterMany, .ref a_text, .int m_readAt, .ref a_told, .ref a_readLaw, .ref a_readNow, .ref a_law, .ref a_now, .ref a_tried, .int m_undoMany, .int m_undoAt, .ref a_undos, .int m_seenMany, .ref a_seenHour, .ref a_seenAt, .ref a_parts, .ref a_partsThen, .int m_keptMany, .ref a_kept])), (a_law, .inl (cI, 22, .inl m_law)), (a_now, .inl (cI, 26, .inl m_now)), (a_tried, .inl (cI, 26, .inl m_tried_4))] H := hP
    have hD : va_D A [(ax, .inr (8, [.int m_letterMany, .ref a_text, .int m_readAt, .ref a_told, .ref a_readLaw, .ref a_readNow, .ref a_law, .ref a_now, .ref a_tried, .int m_undoMany, .int m_undoAt, .ref a_undos, .int m_seenMany, .ref a_seenHour, .ref a_seenAt, .ref a_parts, .ref a_partsThen, .int m_keptMany, .ref a_kept])), (a_law, .inl (cI, 22, .inl m_law)), (a_now, .inl (cI, 26, .inl m_now)), (a_tried, .inl (cI, 26, .inl m_tried_4))] := hD
    refine lv_iconst (v := (0 : Int32)) hx hb dX8_still_16 (by decide) ?_
    refine lv_istore_n (lv' := [(2, .int (0 : Int32)), (0, .ref ax), (1, .int n)]) hx hb dX8_still_17 rfl hl (by decide) rfl (fun ls hl => ?_)
    have hL18 : ∀ (k18 : Int32 → (Nat → Int32) → Option (Int32 × (Nat → Int32))), (∀ (v6 : Int32) (m_tried_7 : (Nat → Int32)) (H : Heap) (locs : List Loc), va_P D vwCl [(ax, .inr (8, [.int m_letterMany, .ref a_text, .int m_readAt, .ref a_told, .ref a_readLaw, .ref a_readNow, .ref a_law, .ref a_now, .ref a_tried, .int m_undoMany, .int m_undoAt, .ref a_undos, .int m_seenMany, .ref a_seenHour, .ref a_seenAt, .ref a_parts, .ref a_partsThen, .int m_keptMany, .ref a_kept])), (a_law, .inl (cI, 22, .inl m_law)), (a_now, .inl (cI, 26, .inl m_now)), (a_tried, .inl (cI, 26, .inl m_tried_7))] H → va_D A [(ax, .inr (8, [.int m_letterMany, .ref a_text, .int m_readAt, .ref a_told, .ref a_readLaw, .ref a_readNow, .ref a_law, .ref a_now, .ref a_tried, .int m_undoMany, .int m_undoAt, .ref a_undos, .int m_seenMany, .ref a_seenHour, .ref a_seenAt, .ref a_parts, .ref a_partsThen, .int m_keptMany, .ref a_kept])), (a_law, .inl (cI, 22, .inl m_law)), (a_now, .inl (cI, 26, .inl m_now)), (a_tried, .inl (cI, 26, .inl m_tried_7))] → va_S A s.heap H locs → ∀ ls : Array Slot, lv_has ls 3 [(0, .ref ax)] → k18 v6 m_tried_7 = some (rr, m_tried') → W p l e rm_X8_still s m args below meth c H locs 0 0 Q (F0 m 37 ls [])) → ∀ (nf18 : Nat) (v6 : Int32) (m_tried_7 : (Nat → Int32)) (H : Heap) (locs : List Loc), va_P D vwCl [(ax, .inr (8, [.int m_letterMany, .ref a_text, .int m_readAt, .ref a_told, .ref a_readLaw, .ref a_readNow, .ref a_law, .ref a_now, .ref a_tried, .int m_undoMany, .int m_undoAt, .ref a_undos, .int m_seenMany, .ref a_seenHour, .ref a_seenAt, .ref a_parts, .ref a_partsThen, .int m_keptMany, .ref a_kept])), (a_law, .inl (cI, 22, .inl m_law)), (a_now, .inl (cI, 26, .inl m_now)), (a_tried, .inl (cI, 26, .inl m_tried_7))] H → va_D A [(ax, .inr (8, [.int m_letterMany, .ref a_text, .int m_readAt, .ref a_told, .ref a_readLaw, .ref a_readNow, .ref a_law, .ref a_now, .ref a_tried, .int m_undoMany, .int m_undoAt, .ref a_undos, .int m_seenMany, .ref a_seenHour, .ref a_seenAt, .ref a_parts, .ref a_partsThen, .int m_keptMany, .ref a_kept])), (a_law, .inl (cI, 22, .inl m_law)), (a_now, .inl (cI, 26, .inl m_now)), (a_tried, .inl (cI, 26, .inl m_tried_7))] → va_S A s.heap H locs → ∀ ls : Array Slot, lv_has ls 3 [(2, .int v6), (0, .ref ax), (1, .int n)] → f_X8_still_L18 n m_law k18 nf18 v6 m_tried_7 = some (rr, m_tried') → W p l e rm_X8_still s m args below meth c H locs 0 0 Q (F0 m 18 ls []) := by
      intro k18 hk18 nf18
      induction nf18 with
      | zero =>
        intro v6 m_tried_7 H locs hP hD hS ls hl hF
        rw [f_X8_still_L18_0] at hF
        cases hF
      | succ nf18 ih18 =>
        intro v6 m_tried_7 H locs hP hD hS ls hl hF
        rw [f_X8_still_L18_s] at hF
        refine lv_iload_n hx hb dX8_still_18 rfl (lv_at hl 0 rfl) ?_
        refine lv_iload_n hx hb dX8_still_19 rfl (lv_at hl 2 rfl) ?_
        refine lv_icmp_ge (tgt := 37) hx hb dX8_still_20 (by decide) (fun c8 => ?_) (fun c8 => ?_)
        · have hF := op_pos c8 hF
          exact hk18 v6 m_tried_7 _ _ hP hD hS _ (lv_sub hl [1] rfl) hF
        · have hF := op_neg c8 hF
          refine lv_aload_n hx hb dX8_still_23 rfl (lv_at hl 1 rfl) ?_
          refine lv_aload_n hx hb dX8_still_24 rfl (lv_at hl 1 rfl) ?_
          refine va_get (D := D) (ci := 8) (v := .ref a_tried) (C := RX8) (T := TX8) (N := 19) hx hb hts iX8 hown hK hP 0 rfl rfl 8 (by decide) k_f28 (fun _ h9 => h9) rfl dX8_still_25 ?_
          obtain ⟨o_9, hb10, hF⟩ := op_bind hF
          refine xVv (As := [.ref a_tried]) (rest := []) hC hP hD hS [0, 1, 3] (c_X8_goes l D cI cC cM ax a_law a_tried a_text a_told a_readLaw a_readNow a_now a_tried a_undos a_seenHour a_seenAt a_parts a_partsThen a_kept m_letterMany m_readAt m_undoMany m_undoAt m_seenMany m_keptMany m_law m_tried_7 o_9 hb10) (cwV 1 hts gX8_still_X8_goes rfl rfl rfl ⟨rfl, pd_X8_goes⟩ ⟨Nat.le_of_ble_eq_true rfl, Nat.le_of_ble_eq_true rfl⟩) rfl rfl rfl 0 8 rfl rfl rfl rfl hl.1 rfl (Nat.le_of_ble_eq_true rfl) dX8_still_28 ⟨Nat.zero_le _, Nat.zero_le _⟩ (fun H locs hP hD hS => ?_)
          have hP : va_P D vwCl [(ax, .inr (8, [.int m_letterMany, .ref a_text, .int m_readAt, .ref a_told, .ref a_readLaw, .ref a_readNow, .ref a_law, .ref a_now, .ref a_tried, .int m_undoMany, .int m_undoAt, .ref a_undos, .int m_seenMany, .ref a_seenHour, .ref a_seenAt, .ref a_parts, .ref a_partsThen, .int m_keptMany, .ref a_kept])), (a_law, .inl (cI, 22, .inl m_law)), (a_now, .inl (cI, 26, .inl m_now)), (a_tried, .inl (cI, 26, .inl o_9))] H := hP
          have hD : va_D A [(ax, .inr (8, [.int m_letterMany, .ref a_text, .int m_readAt, .ref a_told, .ref a_readLaw, .ref a_readNow, .ref a_law, .ref a_now, .ref a_tried, .int m_undoMany, .int m_undoAt, .ref a_undos, .int m_seenMany, .ref a_seenHour, .ref a_seenAt, .ref a_parts, .ref a_partsThen, .int m_keptMany, .ref a_kept])), (a_law, .inl (cI, 22, .inl m_law)), (a_now, .inl (cI, 26, .inl m_now)), (a_tried, .inl (cI, 26, .inl o_9))] := hD
          refine lv_iinc (v := (v6 + (1 : Int32))) (lv' := [(2, .int (v6 + (1 : Int32))), (0, .ref ax), (1, .int n)]) hx hb dX8_still_31 hl (k := 0) rfl (by first | rfl | decide) (by decide) rfl (fun ls hl => ?_)
          refine lv_goto (tgt := 18) hx hb dX8_still_34 (by decide) ?_
          exact ih18 (v6 + (1 : Int32)) o_9 _ _ hP hD hS _ (lv_sub hl [0, 1, 2] rfl) hF
    refine hL18 _ (fun v6 m_tried_7 H locs hP hD hS ls hl hF => ?_) 20000 (0 : Int32) m_tried_4 _ _ hP hD hS _ (lv_sub hl [0, 1, 2] rfl) hF
    refine lv_aload_n hx hb dX8_still_37 rfl (lv_at hl 0 rfl) ?_
    refine va_get (D := D) (ci := 8) (v := .ref a_tried) (C := RX8) (T := TX8) (N := 19) hx hb hts iX8 hown hK hP 0 rfl rfl 8 (by decide) k_f28 (fun _ h9 => h9) rfl dX8_still_38 ?_
    refine lv_iconst (v := (3 : Int32)) hx hb dX8_still_41 (by decide) ?_
    refine va_iald hx hb hK hP 3 0 rfl rfl (okb_in (by decide)) dX8_still_42 ?_
    cases hF
    rw [hQ]
    exact xri hC hP hS dX8_still_43
  · have hF := op_pos c3 hF
    refine lv_iconst (v := (-1 : Int32)) hx hb dX8_still_10 (by decide) ?_
    cases hF
    rw [hQ]
    exact xri hC hP hS dX8_still_11

def f_X8_wornBy_L13 (n : Int32) (m_law : (Nat → Int32)) (u : Int32) (m_now : (Nat → Int32)) (k13 : Int32 → Int32 → Option Int32) : Nat → Int32 → Int32 → Option Int32
  | 0, _, _ => none
  | nf13 + 1, v2, v3 => (if n ≤ v3 then (k13 v2 v3) else (Option.bind (f_X8_wears m_law u ((m_now (0 : Int32).toNatClampNeg) + v3)) fun r5 => (f_X8_wornBy_L13 n m_law u m_now k13 nf13 (v2 + r5) (v3 + (1 : Int32)))))
theorem f_X8_wornBy_L13_0 (n : Int32) (m_law : (Nat → Int32)) (u : Int32) (m_now : (Nat → Int32)) (k13 : Int32 → Int32 → Option Int32) (v2 : Int32) (v3 : Int32) : f_X8_wornBy_L13 n m_law u m_now k13 0 v2 v3 = none := rfl
theorem f_X8_wornBy_L13_s (n : Int32) (m_law : (Nat → Int32)) (u : Int32) (m_now : (Nat → Int32)) (k13 : Int32 → Int32 → Option Int32) (nf13 : Nat) (v2 : Int32) (v3 : Int32) : f_X8_wornBy_L13 n m_law u m_now k13 (nf13 + 1) v2 v3 = (if n ≤ v3 then (k13 v2 v3) else (Option.bind (f_X8_wears m_law u ((m_now (0 : Int32).toNatClampNeg) + v3)) fun r5 => (f_X8_wornBy_L13 n m_law u m_now k13 nf13 (v2 + r5) (v3 + (1 : Int32))))) := rfl

def f_X8_wornBy (m_law : (Nat → Int32)) (m_now : (Nat → Int32)) (u : Int32) (n : Int32) : Option Int32 := (if okb ((10 : Int32) + u) 26 = true then (f_X8_wornBy_L13 n m_law u m_now (fun (v2 : Int32) (v3 : Int32) => (some v2)) 20000 (m_now ((10 : Int32) + u).toNatClampNeg) (0 : Int32)) else none)

def rm_X8_wornBy : Room := { frames := 1, cells := 0, slots := 0, locals := 22 }

theorem pd_X8_wornBy : yX8_wornBy.cls ≠ "java/lang/invoke/MethodHandle" ∧ yX8_wornBy.cls ≠ "java/lang/invoke/VarHandle" ∧ (parseMethodDescriptor yX8_wornBy.desc).map (fun d => d.parameters.length) = some 2 := by decide +kernel

set_option maxHeartbeats 4000000 in
set_option maxRecDepth 100000 in
theorem c_X8_wornBy (l : Launch) (D : va_G) (cI cC cM : ClassId) (ax a_law a_now a_text a_told a_readLaw a_readNow a_tried a_undos a_seenHour a_seenAt a_parts a_partsThen a_kept : Nat) (m_letterMany : Int32) (m_readAt : Int32) (m_undoMany : Int32) (m_undoAt : Int32) (m_seenMany : Int32) (m_keptMany : Int32) (m_law : (Nat → Int32)) (m_now : (Nat → Int32)) (u : Int32) (n : Int32) (rr : Int32) (hF : f_X8_wornBy m_law m_now u n = some rr) : CI l D cI cC cM yX8_wornBy wsX8_wornBy rm_X8_wornBy [.ref ax, .int u, .int n] [(ax, .inr (8, [.int m_letterMany, .ref a_text, .int m_readAt, .ref a_told, .ref a_readLaw, .ref a_readNow, .ref a_law, .ref a_now, .ref a_tried, .int m_undoMany, .int m_undoAt, .ref a_undos, .int m_seenMany, .ref a_seenHour, .ref a_seenAt, .ref a_parts, .ref a_partsThen, .int m_keptMany, .ref a_kept])), (a_law, .inl (cI, 22, .inl m_law)), (a_now, .inl (cI, 26, .inl m_now))] [(ax, .inr (8, [.int m_letterMany, .ref a_text, .int m_readAt, .ref a_told, .ref a_readLaw, .ref a_readNow, .ref a_law, .ref a_now, .ref a_tried, .int m_undoMany, .int m_undoAt, .ref a_undos, .int m_seenMany, .ref a_seenHour, .ref a_seenAt, .ref a_parts, .ref a_partsThen, .int m_keptMany, .ref a_kept])), (a_law, .inl (cI, 22, .inl m_law)), (a_now, .inl (cI, 26, .inl m_now))] rr := by
  refine CI.of (cc := cX8_wornBy) (nL := 5) (ret := (some .int)) (by decide) rfl (Nat.le_of_ble_eq_true rfl) ?_
  intro p e s m args below meth c A hC hP hD hS ls hl
  obtain ⟨hx, hb, hml, hown, hts, hr, hlk, hG, hA⟩ := id hC
  have hown : s.vm.findClass RX8 = some m.cls := hown
  have hK := hG.1
  have hl : lv_has ls 5 [(0, .ref ax), (1, .int u), (2, .int n)] := hl
  have k_f25 := hts (.fieldLink RX8 25 "ParasolHoursModel" "now" "[I") (List.mem_of_getElem? (i := 1) rfl)
  have iX8 : ∀ w ∈ wsX80, w ∈ wsX8_wornBy := by decide +kernel
  obtain ⟨Q, hQ⟩ : ∃ Q, Q = MQ below (QI D [(ax, .inr (8, [.int m_letterMany, .ref a_text, .int m_readAt, .ref a_told, .ref a_readLaw, .ref a_readNow, .ref a_law, .ref a_now, .ref a_tried, .int m_undoMany, .int m_undoAt, .ref a_undos, .int m_seenMany, .ref a_seenHour, .ref a_seenAt, .ref a_parts, .ref a_partsThen, .int m_keptMany, .ref a_kept])), (a_law, .inl (cI, 22, .inl m_law)), (a_now, .inl (cI, 26, .inl m_now))] rr A) args s 0 0 A := ⟨_, rfl⟩
  rw [← hQ]
  unfold f_X8_wornBy at hF
  refine lv_aload_n hx hb dX8_wornBy_0 rfl (lv_at hl 0 rfl) ?_
  refine va_get (D := D) (ci := 8) (v := .ref a_now) (C := RX8) (T := TX8) (N := 19) hx hb hts iX8 hown hK hP 0 rfl rfl 7 (by decide) k_f25 (fun _ h9 => h9) rfl dX8_wornBy_1 ?_
  refine lv_bipush (v := (10 : Int32)) hx hb dX8_wornBy_4 (by decide) ?_
  refine lv_iload_n hx hb dX8_wornBy_6 rfl (lv_at hl 1 rfl) ?_
  refine lv_iadd hx hb dX8_wornBy_7 ?_
  obtain ⟨o1, hF⟩ := op_ob hF
  refine va_iald hx hb hK hP 2 0 rfl rfl (okb_in o1) dX8_wornBy_8 ?_
  refine lv_istore_n (lv' := [(3, .int (m_now ((10 : Int32) + u).toNatClampNeg)), (0, .ref ax), (1, .int u), (2, .int n)]) hx hb dX8_wornBy_9 rfl hl (by decide) rfl (fun ls hl => ?_)
  refine lv_iconst (v := (0 : Int32)) hx hb dX8_wornBy_10 (by decide) ?_
  refine lv_istore (lv' := [(4, .int (0 : Int32)), (3, .int (m_now ((10 : Int32) + u).toNatClampNeg)), (0, .ref ax), (1, .int u), (2, .int n)]) hx hb dX8_wornBy_11 hl (by decide) rfl (fun ls hl => ?_)
  have hL13 : ∀ (k13 : Int32 → Int32 → Option Int32), (∀ (v2 : Int32) (v3 : Int32) (H : Heap) (locs : List Loc), va_P D vwCl [(ax, .inr (8, [.int m_letterMany, .ref a_text, .int m_readAt, .ref a_told, .ref a_readLaw, .ref a_readNow, .ref a_law, .ref a_now, .ref a_tried, .int m_undoMany, .int m_undoAt, .ref a_undos, .int m_seenMany, .ref a_seenHour, .ref a_seenAt, .ref a_parts, .ref a_partsThen, .int m_keptMany, .ref a_kept])), (a_law, .inl (cI, 22, .inl m_law)), (a_now, .inl (cI, 26, .inl m_now))] H → va_D A [(ax, .inr (8, [.int m_letterMany, .ref a_text, .int m_readAt, .ref a_told, .ref a_readLaw, .ref a_readNow, .ref a_law, .ref a_now, .ref a_tried, .int m_undoMany, .int m_undoAt, .ref a_undos, .int m_seenMany, .ref a_seenHour, .ref a_seenAt, .ref a_parts, .ref a_partsThen, .int m_keptMany, .ref a_kept])), (a_law, .inl (cI, 22, .inl m_law)), (a_now, .inl (cI, 26, .inl m_now))] → va_S A s.heap H locs → ∀ ls : Array Slot, lv_has ls 5 [(3, .int v2)] → k13 v2 v3 = some rr → W p l e rm_X8_wornBy s m args below meth c H locs 0 0 Q (F0 m 42 ls [])) → ∀ (nf13 : Nat) (v2 : Int32) (v3 : Int32) (H : Heap) (locs : List Loc), va_P D vwCl [(ax, .inr (8, [.int m_letterMany, .ref a_text, .int m_readAt, .ref a_told, .ref a_readLaw, .ref a_readNow, .ref a_law, .ref a_now, .ref a_tried, .int m_undoMany, .int m_undoAt, .ref a_undos, .int m_seenMany, .ref a_seenHour, .ref a_seenAt, .ref a_parts, .ref a_partsThen, .int m_keptMany, .ref a_kept])), (a_law, .inl (cI, 22, .inl m_law)), (a_now, .inl (cI, 26, .inl m_now))] H → va_D A [(ax, .inr (8, [.int m_letterMany, .ref a_text, .int m_readAt, .ref a_told, .ref a_readLaw, .ref a_readNow, .ref a_law, .ref a_now, .ref a_tried, .int m_undoMany, .int m_undoAt, .ref a_undos, .int m_seenMany, .ref a_seenHour, .ref a_seenAt, .ref a_parts, .ref a_partsThen, .int m_keptMany, .ref a_kept])), (a_law, .inl (cI, 22, .inl m_law)), (a_now, .inl (cI, 26, .inl m_now))] → va_S A s.heap H locs → ∀ ls : Array Slot, lv_has ls 5 [(4, .int v3), (3, .int v2), (0, .ref ax), (1, .int u), (2, .int n)] → f_X8_wornBy_L13 n m_law u m_now k13 nf13 v2 v3 = some rr → W p l e rm_X8_wornBy s m args below meth c H locs 0 0 Q (F0 m 13 ls []) := by
    intro k13 hk13 nf13
    induction nf13 with
    | zero =>
      intro v2 v3 H locs hP hD hS ls hl hF
      rw [f_X8_wornBy_L13_0] at hF
      cases hF
    | succ nf13 ih13 =>
      intro v2 v3 H locs hP hD hS ls hl hF
      rw [f_X8_wornBy_L13_s] at hF
      refine lv_iload hx hb dX8_wornBy_13 (lv_at hl 0 rfl) ?_
      refine lv_iload_n hx hb dX8_wornBy_15 rfl (lv_at hl 4 rfl) ?_
      refine lv_icmp_ge (tgt := 42) hx hb dX8_wornBy_16 (by decide) (fun c4 => ?_) (fun c4 => ?_)
      · have hF := op_pos c4 hF
        exact hk13 v2 v3 _ _ hP hD hS _ (lv_sub hl [1] rfl) hF
      · have hF := op_neg c4 hF
        refine lv_iload_n hx hb dX8_wornBy_19 rfl (lv_at hl 1 rfl) ?_
        refine lv_aload_n hx hb dX8_wornBy_20 rfl (lv_at hl 2 rfl) ?_
        refine lv_iload_n hx hb dX8_wornBy_21 rfl (lv_at hl 3 rfl) ?_
        refine lv_aload_n hx hb dX8_wornBy_22 rfl (lv_at hl 2 rfl) ?_
        refine va_get (D := D) (ci := 8) (v := .ref a_now) (C := RX8) (T := TX8) (N := 19) hx hb hts iX8 hown hK hP 0 rfl rfl 7 (by decide) k_f25 (fun _ h9 => h9) rfl dX8_wornBy_23 ?_
        refine lv_iconst (v := (0 : Int32)) hx hb dX8_wornBy_26 (by decide) ?_
        refine va_iald hx hb hK hP 2 0 rfl rfl (okb_in (by decide)) dX8_wornBy_27 ?_
        refine lv_iload hx hb dX8_wornBy_28 (lv_at hl 0 rfl) ?_
        refine lv_iadd hx hb dX8_wornBy_30 ?_
        obtain ⟨r5, hb6, hF⟩ := op_bind hF
        refine xVr (As := [.int u, .int ((m_now (0 : Int32).toNatClampNeg) + v3)]) (rest := [.int v2]) hC hP hD hS [0, 1] (c_X8_wears l D cI cC cM ax a_law a_text a_told a_readLaw a_readNow a_now a_tried a_undos a_seenHour a_seenAt a_parts a_partsThen a_kept m_letterMany m_readAt m_undoMany m_undoAt m_seenMany m_keptMany m_law u ((m_now (0 : Int32).toNatClampNeg) + v3) r5 hb6) (cwV 2 hts gX8_wornBy_X8_wears rfl rfl rfl ⟨rfl, pd_X8_wears⟩ ⟨Nat.le_of_ble_eq_true rfl, Nat.le_of_ble_eq_true rfl⟩) rfl rfl 0 8 rfl rfl rfl rfl hl.1 rfl (Nat.le_of_ble_eq_true rfl) dX8_wornBy_31 ⟨Nat.zero_le _, Nat.zero_le _⟩ (fun H locs hP hS => ?_)
        refine lv_iadd hx hb dX8_wornBy_34 ?_
        refine lv_istore_n (lv' := [(3, .int (v2 + r5)), (4, .int v3), (0, .ref ax), (1, .int u), (2, .int n)]) hx hb dX8_wornBy_35 rfl hl (by decide) rfl (fun ls hl => ?_)
        refine lv_iinc (v := (v3 + (1 : Int32))) (lv' := [(4, .int (v3 + (1 : Int32))), (3, .int (v2 + r5)), (0, .ref ax), (1, .int u), (2, .int n)]) hx hb dX8_wornBy_36 hl (k := 1) rfl (by first | rfl | decide) (by decide) rfl (fun ls hl => ?_)
        refine lv_goto (tgt := 13) hx hb dX8_wornBy_39 (by decide) ?_
        exact ih13 (v2 + r5) (v3 + (1 : Int32)) _ _ hP hD hS _ (lv_sub hl [0, 1, 2, 3, 4] rfl) hF
  refine hL13 _ (fun v2 v3 H locs hP hD hS ls hl hF => ?_) 20000 (m_now ((10 : Int32) + u).toNatClampNeg) (0 : Int32) _ _ hP hD hS _ (lv_sub hl [0, 1, 2, 3, 4] rfl) hF
  refine lv_iload_n hx hb dX8_wornBy_42 rfl (lv_at hl 0 rfl) ?_
  cases hF
  rw [hQ]
  exact xri hC hP hS dX8_wornBy_43

def f_X8_soonest_L45 (m_law : (Nat → Int32)) (m_now : (Nat → Int32)) (w : Int32) (k45 : Int32 → Int32 → Int32 → Option Int32) : Nat → Int32 → Int32 → Int32 → Option Int32
  | 0, _, _, _ => none
  | nf45 + 1, v10, v11, v12 => (if (m_law (2 : Int32).toNatClampNeg) ≤ v12 then (k45 v10 v11 v12) else (if okb ((21 : Int32) + v12) 26 = true then (Option.bind (f_X8_has (m_now (3 : Int32).toNatClampNeg) v12) fun r15 => (if r15 = 0 then (if (m_now ((21 : Int32) + v12).toNatClampNeg) = (-4 : Int32) then (f_X8_soonest_L45 m_law m_now w k45 nf45 v10 v11 (v12 + (1 : Int32))) else (if okb ((16 : Int32) + w) 22 = true then (Option.bind (f_X8_untilHour m_law m_now (m_now ((21 : Int32) + v12).toNatClampNeg) (m_law ((16 : Int32) + w).toNatClampNeg)) fun r20 => (if r20 = (-4 : Int32) then (f_X8_soonest_L45 m_law m_now w k45 nf45 v10 v11 (v12 + (1 : Int32))) else (Option.bind (f_X8_wornBy m_law m_now (m_now ((21 : Int32) + v12).toNatClampNeg) r20) fun r23 => (if (12 : Int32) < r23 then (f_X8_soonest_L45 m_law m_now w k45 nf45 v10 v11 (v12 + (1 : Int32))) else (if v10 = (-4 : Int32) then (f_X8_soonest_L45 m_law m_now w k45 nf45 v12 r20 (v12 + (1 : Int32))) else (if v11 ≤ r20 then (f_X8_soonest_L45 m_law m_now w k45 nf45 v10 v11 (v12 + (1 : Int32))) else (f_X8_soonest_L45 m_law m_now w k45 nf45 v12 r20 (v12 + (1 : Int32))))))))) else none)) else (f_X8_soonest_L45 m_law m_now w k45 nf45 v10 v11 (v12 + (1 : Int32))))) else none))
theorem f_X8_soonest_L45_0 (m_law : (Nat → Int32)) (m_now : (Nat → Int32)) (w : Int32) (k45 : Int32 → Int32 → Int32 → Option Int32) (v10 : Int32) (v11 : Int32) (v12 : Int32) : f_X8_soonest_L45 m_law m_now w k45 0 v10 v11 v12 = none := rfl
theorem f_X8_soonest_L45_s (m_law : (Nat → Int32)) (m_now : (Nat → Int32)) (w : Int32) (k45 : Int32 → Int32 → Int32 → Option Int32) (nf45 : Nat) (v10 : Int32) (v11 : Int32) (v12 : Int32) : f_X8_soonest_L45 m_law m_now w k45 (nf45 + 1) v10 v11 v12 = (if (m_law (2 : Int32).toNatClampNeg) ≤ v12 then (k45 v10 v11 v12) else (if okb ((21 : Int32) + v12) 26 = true then (Option.bind (f_X8_has (m_now (3 : Int32).toNatClampNeg) v12) fun r15 => (if r15 = 0 then (if (m_now ((21 : Int32) + v12).toNatClampNeg) = (-4 : Int32) then (f_X8_soonest_L45 m_law m_now w k45 nf45 v10 v11 (v12 + (1 : Int32))) else (if okb ((16 : Int32) + w) 22 = true then (Option.bind (f_X8_untilHour m_law m_now (m_now ((21 : Int32) + v12).toNatClampNeg) (m_law ((16 : Int32) + w).toNatClampNeg)) fun r20 => (if r20 = (-4 : Int32) then (f_X8_soonest_L45 m_law m_now w k45 nf45 v10 v11 (v12 + (1 : Int32))) else (Option.bind (f_X8_wornBy m_law m_now (m_now ((21 : Int32) + v12).toNatClampNeg) r20) fun r23 => (if (12 : Int32) < r23 then (f_X8_soonest_L45 m_law m_now w k45 nf45 v10 v11 (v12 + (1 : Int32))) else (if v10 = (-4 : Int32) then (f_X8_soonest_L45 m_law m_now w k45 nf45 v12 r20 (v12 + (1 : Int32))) else (if v11 ≤ r20 then (f_X8_soonest_L45 m_law m_now w k45 nf45 v10 v11 (v12 + (1 : Int32))) else (f_X8_soonest_L45 m_law m_now w k45 nf45 v12 r20 (v12 + (1 : Int32))))))))) else none)) else (f_X8_soonest_L45 m_law m_now w k45 nf45 v10 v11 (v12 + (1 : Int32))))) else none)) := rfl

def f_X8_soonest (m_law : (Nat → Int32)) (m_now : (Nat → Int32)) (w : Int32) (i : Int32) : Option Int32 := (Option.bind (f_X8_isWork m_law w) fun r1 => (if r1 = 0 then (some (-1 : Int32)) else (Option.bind (f_X8_in i (0 : Int32) (1 : Int32)) fun r4 => (if r4 = 0 then (some (-1 : Int32)) else (Option.bind (f_X8_has (m_now (2 : Int32).toNatClampNeg) w) fun r7 => (if r7 = 0 then (f_X8_soonest_L45 m_law m_now w (fun (v10 : Int32) (v11 : Int32) (v12 : Int32) => (if i = 0 then (some v10) else (some v11))) 20000 (-4 : Int32) (-4 : Int32) (0 : Int32)) else (some (-2 : Int32))))))))

def rm_X8_soonest : Room := { frames := 3, cells := 0, slots := 0, locals := 71 }

theorem pd_X8_soonest : yX8_soonest.cls ≠ "java/lang/invoke/MethodHandle" ∧ yX8_soonest.cls ≠ "java/lang/invoke/VarHandle" ∧ (parseMethodDescriptor yX8_soonest.desc).map (fun d => d.parameters.length) = some 2 := by decide +kernel

set_option maxHeartbeats 4000000 in
set_option maxRecDepth 100000 in
theorem c_X8_soonest (l : Launch) (D : va_G) (cI cC cM : ClassId) (ax a_law a_now a_text a_told a_readLaw a_readNow a_tried a_undos a_seenHour a_seenAt a_parts a_partsThen a_kept : Nat) (m_letterMany : Int32) (m_readAt : Int32) (m_undoMany : Int32) (m_undoAt : Int32) (m_seenMany : Int32) (m_keptMany : Int32) (m_law : (Nat → Int32)) (m_now : (Nat → Int32)) (w : Int32) (i : Int32) (rr : Int32) (hF : f_X8_soonest m_law m_now w i = some rr) : CI l D cI cC cM yX8_soonest wsX8_soonest rm_X8_soonest [.ref ax, .int w, .int i] [(ax, .inr (8, [.int m_letterMany, .ref a_text, .int m_readAt, .ref a_told, .ref a_readLaw, .ref a_readNow, .ref a_law, .ref a_now, .ref a_tried, .int m_undoMany, .int m_undoAt, .ref a_undos, .int m_seenMany, .ref a_seenHour, .ref a_seenAt, .ref a_parts, .ref a_partsThen, .int m_keptMany, .ref a_kept])), (a_law, .inl (cI, 22, .inl m_law)), (a_now, .inl (cI, 26, .inl m_now))] [(ax, .inr (8, [.int m_letterMany, .ref a_text, .int m_readAt, .ref a_told, .ref a_readLaw, .ref a_readNow, .ref a_law, .ref a_now, .ref a_tried, .int m_undoMany, .int m_undoAt, .ref a_undos, .int m_seenMany, .ref a_seenHour, .ref a_seenAt, .ref a_parts, .ref a_partsThen, .int m_keptMany, .ref a_kept])), (a_law, .inl (cI, 22, .inl m_law)), (a_now, .inl (cI, 26, .inl m_now))] rr := by
  refine CI.of (cc := cX8_soonest) (nL := 9) (ret := (some .int)) (by decide) rfl (Nat.le_of_ble_eq_true rfl) ?_
  intro p e s m args below meth c A hC hP hD hS ls hl
  obtain ⟨hx, hb, hml, hown, hts, hr, hlk, hG, hA⟩ := id hC
  have hown : s.vm.findClass RX8 = some m.cls := hown
  have hK := hG.1
  have hl : lv_has ls 9 [(0, .ref ax), (1, .int w), (2, .int i)] := hl
  have k_f25 := hts (.fieldLink RX8 25 "ParasolHoursModel" "now" "[I") (List.mem_of_getElem? (i := 1) rfl)
  have k_f22 := hts (.fieldLink RX8 22 "ParasolHoursModel" "law" "[I") (List.mem_of_getElem? (i := 2) rfl)
  have iX8 : ∀ w ∈ wsX80, w ∈ wsX8_soonest := by decide +kernel
  obtain ⟨Q, hQ⟩ : ∃ Q, Q = MQ below (QI D [(ax, .inr (8, [.int m_letterMany, .ref a_text, .int m_readAt, .ref a_told, .ref a_readLaw, .ref a_readNow, .ref a_law, .ref a_now, .ref a_tried, .int m_undoMany, .int m_undoAt, .ref a_undos, .int m_seenMany, .ref a_seenHour, .ref a_seenAt, .ref a_parts, .ref a_partsThen, .int m_keptMany, .ref a_kept])), (a_law, .inl (cI, 22, .inl m_law)), (a_now, .inl (cI, 26, .inl m_now))] rr A) args s 0 0 A := ⟨_, rfl⟩
  rw [← hQ]
  unfold f_X8_soonest at hF
  refine lv_aload_n hx hb dX8_soonest_0 rfl (lv_at hl 0 rfl) ?_
  refine lv_iload_n hx hb dX8_soonest_1 rfl (lv_at hl 1 rfl) ?_
  obtain ⟨r1, hb2, hF⟩ := op_bind hF
  refine xVr (As := [.int w]) (rest := []) hC hP hD hS [0, 1] (c_X8_isWork l D cI cC cM ax a_law a_text a_told a_readLaw a_readNow a_now a_tried a_undos a_seenHour a_seenAt a_parts a_partsThen a_kept m_letterMany m_readAt m_undoMany m_undoAt m_seenMany m_keptMany m_law w r1 hb2) (cwV 1 hts gX8_soonest_X8_isWork rfl rfl rfl ⟨rfl, pd_X8_isWork⟩ ⟨Nat.le_of_ble_eq_true rfl, Nat.le_of_ble_eq_true rfl⟩) rfl rfl 0 8 rfl rfl rfl rfl hl.1 rfl (Nat.le_of_ble_eq_true rfl) dX8_soonest_2 ⟨Nat.zero_le _, Nat.zero_le _⟩ (fun H locs hP hS => ?_)
  refine lv_if_eq (tgt := 17) hx hb dX8_soonest_5 (by decide) (fun c3 => ?_) (fun c3 => ?_)
  · have hF := op_pos c3 hF
    refine lv_iconst (v := (-1 : Int32)) hx hb dX8_soonest_17 (by decide) ?_
    cases hF
    rw [hQ]
    exact xri hC hP hS dX8_soonest_18
  · have hF := op_neg c3 hF
    refine lv_iload_n hx hb dX8_soonest_8 rfl (lv_at hl 2 rfl) ?_
    refine lv_iconst (v := (0 : Int32)) hx hb dX8_soonest_9 (by decide) ?_
    refine lv_iconst (v := (1 : Int32)) hx hb dX8_soonest_10 (by decide) ?_
    obtain ⟨r4, hb5, hF⟩ := op_bind hF
    refine xSr (As := [.int i, .int (0 : Int32), .int (1 : Int32)]) (rest := []) hC hP hD hS [] (c_X8_in l D cI cC cM i (0 : Int32) (1 : Int32) r4 hb5) (va_cwS 3 hts gX8_soonest_X8_in rfl rfl rfl pd_X8_in ⟨Nat.le_of_ble_eq_true rfl, Nat.le_of_ble_eq_true rfl⟩) rfl rfl rfl hl.1 rfl (Nat.le_of_ble_eq_true rfl) dX8_soonest_11 ⟨Nat.zero_le _, Nat.zero_le _⟩ (fun H locs hP hS => ?_)
    refine lv_if_ne (tgt := 19) hx hb dX8_soonest_14 (by decide) (fun c6 => ?_) (fun c6 => ?_)
    · have hF := op_neg c6 hF
      refine lv_aload_n hx hb dX8_soonest_19 rfl (lv_at hl 0 rfl) ?_
      refine va_get (D := D) (ci := 8) (v := .ref a_now) (C := RX8) (T := TX8) (N := 19) hx hb hts iX8 hown hK hP 0 rfl rfl 7 (by decide) k_f25 (fun _ h9 => h9) rfl dX8_soonest_20 ?_
      refine lv_iconst (v := (2 : Int32)) hx hb dX8_soonest_23 (by decide) ?_
      refine va_iald hx hb hK hP 2 0 rfl rfl (okb_in (by decide)) dX8_soonest_24 ?_
      refine lv_iload_n hx hb dX8_soonest_25 rfl (lv_at hl 1 rfl) ?_
      obtain ⟨r7, hb8, hF⟩ := op_bind hF
      refine xSr (As := [.int (m_now (2 : Int32).toNatClampNeg), .int w]) (rest := []) hC hP hD hS [] (c_X8_has l D cI cC cM (m_now (2 : Int32).toNatClampNeg) w r7 hb8) (va_cwS 2 hts gX8_soonest_X8_has rfl rfl rfl pd_X8_has ⟨Nat.le_of_ble_eq_true rfl, Nat.le_of_ble_eq_true rfl⟩) rfl rfl rfl hl.1 rfl (Nat.le_of_ble_eq_true rfl) dX8_soonest_26 ⟨Nat.zero_le _, Nat.zero_le _⟩ (fun H locs hP hS => ?_)
      refine lv_if_eq (tgt := 35) hx hb dX8_soonest_29 (by decide) (fun c9 => ?_) (fun c9 => ?_)
      · have hF := op_pos c9 hF
        refine lv_bipush (v := (-4 : Int32)) hx hb dX8_soonest_35 (by decide) ?_
        refine lv_istore_n (lv' := [(3, .int (-4 : Int32)), (0, .ref ax), (1, .int w), (2, .int i)]) hx hb dX8_soonest_37 rfl hl (by decide) rfl (fun ls hl => ?_)
        refine lv_bipush (v := (-4 : Int32)) hx hb dX8_soonest_38 (by decide) ?_
        refine lv_istore (lv' := [(4, .int (-4 : Int32)), (3, .int (-4 : Int32)), (0, .ref ax), (1, .int w), (2, .int i)]) hx hb dX8_soonest_40 hl (by decide) rfl (fun ls hl => ?_)
        refine lv_iconst (v := (0 : Int32)) hx hb dX8_soonest_42 (by decide) ?_
        refine lv_istore (lv' := [(5, .int (0 : Int32)), (4, .int (-4 : Int32)), (3, .int (-4 : Int32)), (0, .ref ax), (1, .int w), (2, .int i)]) hx hb dX8_soonest_43 hl (by decide) rfl (fun ls hl => ?_)
        have hL45 : ∀ (k45 : Int32 → Int32 → Int32 → Option Int32), (∀ (v10 : Int32) (v11 : Int32) (v12 : Int32) (H : Heap) (locs : List Loc), va_P D vwCl [(ax, .inr (8, [.int m_letterMany, .ref a_text, .int m_readAt, .ref a_told, .ref a_readLaw, .ref a_readNow, .ref a_law, .ref a_now, .ref a_tried, .int m_undoMany, .int m_undoAt, .ref a_undos, .int m_seenMany, .ref a_seenHour, .ref a_seenAt, .ref a_parts, .ref a_partsThen, .int m_keptMany, .ref a_kept])), (a_law, .inl (cI, 22, .inl m_law)), (a_now, .inl (cI, 26, .inl m_now))] H → va_D A [(ax, .inr (8, [.int m_letterMany, .ref a_text, .int m_readAt, .ref a_told, .ref a_readLaw, .ref a_readNow, .ref a_law, .ref a_now, .ref a_tried, .int m_undoMany, .int m_undoAt, .ref a_undos, .int m_seenMany, .ref a_seenHour, .ref a_seenAt, .ref a_parts, .ref a_partsThen, .int m_keptMany, .ref a_kept])), (a_law, .inl (cI, 22, .inl m_law)), (a_now, .inl (cI, 26, .inl m_now))] → va_S A s.heap H locs → ∀ ls : Array Slot, lv_has ls 9 [(4, .int v11), (3, .int v10), (2, .int i)] → k45 v10 v11 v12 = some rr → W p l e rm_X8_soonest s m args below meth c H locs 0 0 Q (F0 m 183 ls [])) → ∀ (nf45 : Nat) (v10 : Int32) (v11 : Int32) (v12 : Int32) (H : Heap) (locs : List Loc), va_P D vwCl [(ax, .inr (8, [.int m_letterMany, .ref a_text, .int m_readAt, .ref a_told, .ref a_readLaw, .ref a_readNow, .ref a_law, .ref a_now, .ref a_tried, .int m_undoMany, .int m_undoAt, .ref a_undos, .int m_seenMany, .ref a_seenHour, .ref a_seenAt, .ref a_parts, .ref a_partsThen, .int m_keptMany, .ref a_kept])), (a_law, .inl (cI, 22, .inl m_law)), (a_now, .inl (cI, 26, .inl m_now))] H → va_D A [(ax, .inr (8, [.int m_letterMany, .ref a_text, .int m_readAt, .ref a_told, .ref a_readLaw, .ref a_readNow, .ref a_law, .ref a_now, .ref a_tried, .int m_undoMany, .int m_undoAt, .ref a_undos, .int m_seenMany, .ref a_seenHour, .ref a_seenAt, .ref a_parts, .ref a_partsThen, .int m_keptMany, .ref a_kept])), (a_law, .inl (cI, 22, .inl m_law)), (a_now, .inl (cI, 26, .inl m_now))] → va_S A s.heap H locs → ∀ ls : Array Slot, lv_has ls 9 [(5, .int v12), (4, .int v11), (3, .int v10), (0, .ref ax), (1, .int w), (2, .int i)] → f_X8_soonest_L45 m_law m_now w k45 nf45 v10 v11 v12 = some rr → W p l e rm_X8_soonest s m args below meth c H locs 0 0 Q (F0 m 45 ls []) := by
          intro k45 hk45 nf45
          induction nf45 with
          | zero =>
            intro v10 v11 v12 H locs hP hD hS ls hl hF
            rw [f_X8_soonest_L45_0] at hF
            cases hF
          | succ nf45 ih45 =>
            intro v10 v11 v12 H locs hP hD hS ls hl hF
            rw [f_X8_soonest_L45_s] at hF
            refine lv_iload hx hb dX8_soonest_45 (lv_at hl 0 rfl) ?_
            refine lv_aload_n hx hb dX8_soonest_47 rfl (lv_at hl 3 rfl) ?_
            refine va_get (D := D) (ci := 8) (v := .ref a_law) (C := RX8) (T := TX8) (N := 19) hx hb hts iX8 hown hK hP 0 rfl rfl 6 (by decide) k_f22 (fun _ h9 => h9) rfl dX8_soonest_48 ?_
            refine lv_iconst (v := (2 : Int32)) hx hb dX8_soonest_51 (by decide) ?_
            refine va_iald hx hb hK hP 1 0 rfl rfl (okb_in (by decide)) dX8_soonest_52 ?_
            refine lv_icmp_ge (tgt := 183) hx hb dX8_soonest_53 (by decide) (fun c13 => ?_) (fun c13 => ?_)
            · have hF := op_pos c13 hF
              exact hk45 v10 v11 v12 _ _ hP hD hS _ (lv_sub hl [1, 2, 5] rfl) hF
            · have hF := op_neg c13 hF
              refine lv_aload_n hx hb dX8_soonest_56 rfl (lv_at hl 3 rfl) ?_
              refine va_get (D := D) (ci := 8) (v := .ref a_now) (C := RX8) (T := TX8) (N := 19) hx hb hts iX8 hown hK hP 0 rfl rfl 7 (by decide) k_f25 (fun _ h9 => h9) rfl dX8_soonest_57 ?_
              refine lv_bipush (v := (21 : Int32)) hx hb dX8_soonest_60 (by decide) ?_
              refine lv_iload hx hb dX8_soonest_62 (lv_at hl 0 rfl) ?_
              refine lv_iadd hx hb dX8_soonest_64 ?_
              obtain ⟨o14, hF⟩ := op_ob hF
              refine va_iald hx hb hK hP 2 0 rfl rfl (okb_in o14) dX8_soonest_65 ?_
              refine lv_istore (lv' := [(6, .int (m_now ((21 : Int32) + v12).toNatClampNeg)), (5, .int v12), (4, .int v11), (3, .int v10), (0, .ref ax), (1, .int w), (2, .int i)]) hx hb dX8_soonest_66 hl (by decide) rfl (fun ls hl => ?_)
              refine lv_aload_n hx hb dX8_soonest_68 rfl (lv_at hl 4 rfl) ?_
              refine va_get (D := D) (ci := 8) (v := .ref a_now) (C := RX8) (T := TX8) (N := 19) hx hb hts iX8 hown hK hP 0 rfl rfl 7 (by decide) k_f25 (fun _ h9 => h9) rfl dX8_soonest_69 ?_
              refine lv_iconst (v := (3 : Int32)) hx hb dX8_soonest_72 (by decide) ?_
              refine va_iald hx hb hK hP 2 0 rfl rfl (okb_in (by decide)) dX8_soonest_73 ?_
              refine lv_iload hx hb dX8_soonest_74 (lv_at hl 1 rfl) ?_
              obtain ⟨r15, hb16, hF⟩ := op_bind hF
              refine xSr (As := [.int (m_now (3 : Int32).toNatClampNeg), .int v12]) (rest := []) hC hP hD hS [] (c_X8_has l D cI cC cM (m_now (3 : Int32).toNatClampNeg) v12 r15 hb16) (va_cwS 2 hts gX8_soonest_X8_has rfl rfl rfl pd_X8_has ⟨Nat.le_of_ble_eq_true rfl, Nat.le_of_ble_eq_true rfl⟩) rfl rfl rfl hl.1 rfl (Nat.le_of_ble_eq_true rfl) dX8_soonest_76 ⟨Nat.zero_le _, Nat.zero_le _⟩ (fun H locs hP hS => ?_)
              refine lv_if_ne (tgt := 89) hx hb dX8_soonest_79 (by decide) (fun c17 => ?_) (fun c17 => ?_)
              · have hF := op_neg c17 hF
                refine lv_bipush (v := (-4 : Int32)) hx hb dX8_soonest_89 (by decide) ?_
                refine lv_goto (tgt := 109) hx hb dX8_soonest_91 (by decide) ?_
                refine lv_istore (lv' := [(7, .int (-4 : Int32)), (6, .int (m_now ((21 : Int32) + v12).toNatClampNeg)), (5, .int v12), (4, .int v11), (3, .int v10), (0, .ref ax), (1, .int w), (2, .int i)]) hx hb dX8_soonest_109 hl (by decide) rfl (fun ls hl => ?_)
                refine lv_iload hx hb dX8_soonest_111 (lv_at hl 0 rfl) ?_
                refine lv_bipush (v := (-4 : Int32)) hx hb dX8_soonest_113 (by decide) ?_
                refine lv_icmp_eq (tgt := 148) hx hb dX8_soonest_115 (by decide) (fun _ => ?_) (fun c => absurd (by decide) c)
                refine lv_iconst (v := (0 : Int32)) hx hb dX8_soonest_148 (by decide) ?_
                refine lv_istore (lv' := [(8, .int (0 : Int32)), (7, .int (-4 : Int32)), (6, .int (m_now ((21 : Int32) + v12).toNatClampNeg)), (5, .int v12), (4, .int v11), (3, .int v10), (0, .ref ax), (1, .int w), (2, .int i)]) hx hb dX8_soonest_149 hl (by decide) rfl (fun ls hl => ?_)
                refine lv_iload hx hb dX8_soonest_151 (lv_at hl 0 rfl) ?_
                refine lv_if_eq (tgt := 161) hx hb dX8_soonest_153 (by decide) (fun _ => ?_) (fun c => absurd (by decide) c)
                refine lv_iload_n hx hb dX8_soonest_161 rfl (lv_at hl 5 rfl) ?_
                refine lv_istore_n (lv' := [(3, .int v10), (8, .int (0 : Int32)), (7, .int (-4 : Int32)), (6, .int (m_now ((21 : Int32) + v12).toNatClampNeg)), (5, .int v12), (4, .int v11), (0, .ref ax), (1, .int w), (2, .int i)]) hx hb dX8_soonest_162 rfl hl (by decide) rfl (fun ls hl => ?_)
                refine lv_iload hx hb dX8_soonest_163 (lv_at hl 1 rfl) ?_
                refine lv_if_eq (tgt := 173) hx hb dX8_soonest_165 (by decide) (fun _ => ?_) (fun c => absurd (by decide) c)
                refine lv_iload hx hb dX8_soonest_173 (lv_at hl 5 rfl) ?_
                refine lv_istore (lv' := [(4, .int v11), (3, .int v10), (8, .int (0 : Int32)), (7, .int (-4 : Int32)), (6, .int (m_now ((21 : Int32) + v12).toNatClampNeg)), (5, .int v12), (0, .ref ax), (1, .int w), (2, .int i)]) hx hb dX8_soonest_175 hl (by decide) rfl (fun ls hl => ?_)
                refine lv_iinc (v := (v12 + (1 : Int32))) (lv' := [(5, .int (v12 + (1 : Int32))), (4, .int v11), (3, .int v10), (8, .int (0 : Int32)), (7, .int (-4 : Int32)), (6, .int (m_now ((21 : Int32) + v12).toNatClampNeg)), (0, .ref ax), (1, .int w), (2, .int i)]) hx hb dX8_soonest_177 hl (k := 5) rfl (by first | rfl | decide) (by decide) rfl (fun ls hl => ?_)
                refine lv_goto (tgt := 45) hx hb dX8_soonest_180 (by decide) ?_
                exact ih45 v10 v11 (v12 + (1 : Int32)) _ _ hP hD hS _ (lv_sub hl [0, 1, 2, 6, 7, 8] rfl) hF
              · have hF := op_pos c17 hF
                refine lv_iload hx hb dX8_soonest_82 (lv_at hl 0 rfl) ?_
                refine lv_bipush (v := (-4 : Int32)) hx hb dX8_soonest_84 (by decide) ?_
                refine lv_icmp_ne (tgt := 94) hx hb dX8_soonest_86 (by decide) (fun c18 => ?_) (fun c18 => ?_)
                · have hF := op_neg c18 hF
                  refine lv_aload_n hx hb dX8_soonest_94 rfl (lv_at hl 4 rfl) ?_
                  refine lv_iload hx hb dX8_soonest_95 (lv_at hl 0 rfl) ?_
                  refine lv_aload_n hx hb dX8_soonest_97 rfl (lv_at hl 4 rfl) ?_
                  refine va_get (D := D) (ci := 8) (v := .ref a_law) (C := RX8) (T := TX8) (N := 19) hx hb hts iX8 hown hK hP 0 rfl rfl 6 (by decide) k_f22 (fun _ h9 => h9) rfl dX8_soonest_98 ?_
                  refine lv_bipush (v := (16 : Int32)) hx hb dX8_soonest_101 (by decide) ?_
                  refine lv_iload_n hx hb dX8_soonest_103 rfl (lv_at hl 5 rfl) ?_
                  refine lv_iadd hx hb dX8_soonest_104 ?_
                  obtain ⟨o19, hF⟩ := op_ob hF
                  refine va_iald hx hb hK hP 1 0 rfl rfl (okb_in o19) dX8_soonest_105 ?_
                  obtain ⟨r20, hb21, hF⟩ := op_bind hF
                  refine xVr (As := [.int (m_now ((21 : Int32) + v12).toNatClampNeg), .int (m_law ((16 : Int32) + w).toNatClampNeg)]) (rest := []) hC hP hD hS [0, 1, 2] (c_X8_untilHour l D cI cC cM ax a_law a_now a_text a_told a_readLaw a_readNow a_tried a_undos a_seenHour a_seenAt a_parts a_partsThen a_kept m_letterMany m_readAt m_undoMany m_undoAt m_seenMany m_keptMany m_law m_now (m_now ((21 : Int32) + v12).toNatClampNeg) (m_law ((16 : Int32) + w).toNatClampNeg) r20 hb21) (cwV 2 hts gX8_soonest_X8_untilHour rfl rfl rfl ⟨rfl, pd_X8_untilHour⟩ ⟨Nat.le_of_ble_eq_true rfl, Nat.le_of_ble_eq_true rfl⟩) rfl rfl 0 8 rfl rfl rfl rfl hl.1 rfl (Nat.le_of_ble_eq_true rfl) dX8_soonest_106 ⟨Nat.zero_le _, Nat.zero_le _⟩ (fun H locs hP hS => ?_)
                  refine lv_istore (lv' := [(7, .int r20), (6, .int (m_now ((21 : Int32) + v12).toNatClampNeg)), (5, .int v12), (4, .int v11), (3, .int v10), (0, .ref ax), (1, .int w), (2, .int i)]) hx hb dX8_soonest_109 hl (by decide) rfl (fun ls hl => ?_)
                  refine lv_iload hx hb dX8_soonest_111 (lv_at hl 0 rfl) ?_
                  refine lv_bipush (v := (-4 : Int32)) hx hb dX8_soonest_113 (by decide) ?_
                  refine lv_icmp_eq (tgt := 148) hx hb dX8_soonest_115 (by decide) (fun c22 => ?_) (fun c22 => ?_)
                  · have hF := op_pos c22 hF
                    refine lv_iconst (v := (0 : Int32)) hx hb dX8_soonest_148 (by decide) ?_
                    refine lv_istore (lv' := [(8, .int (0 : Int32)), (7, .int r20), (6, .int (m_now ((21 : Int32) + v12).toNatClampNeg)), (5, .int v12), (4, .int v11), (3, .int v10), (0, .ref ax), (1, .int w), (2, .int i)]) hx hb dX8_soonest_149 hl (by decide) rfl (fun ls hl => ?_)
                    refine lv_iload hx hb dX8_soonest_151 (lv_at hl 0 rfl) ?_
                    refine lv_if_eq (tgt := 161) hx hb dX8_soonest_153 (by decide) (fun _ => ?_) (fun c => absurd (by decide) c)
                    refine lv_iload_n hx hb dX8_soonest_161 rfl (lv_at hl 5 rfl) ?_
                    refine lv_istore_n (lv' := [(3, .int v10), (8, .int (0 : Int32)), (7, .int r20), (6, .int (m_now ((21 : Int32) + v12).toNatClampNeg)), (5, .int v12), (4, .int v11), (0, .ref ax), (1, .int w), (2, .int i)]) hx hb dX8_soonest_162 rfl hl (by decide) rfl (fun ls hl => ?_)
                    refine lv_iload hx hb dX8_soonest_163 (lv_at hl 1 rfl) ?_
                    refine lv_if_eq (tgt := 173) hx hb dX8_soonest_165 (by decide) (fun _ => ?_) (fun c => absurd (by decide) c)
                    refine lv_iload hx hb dX8_soonest_173 (lv_at hl 5 rfl) ?_
                    refine lv_istore (lv' := [(4, .int v11), (3, .int v10), (8, .int (0 : Int32)), (7, .int r20), (6, .int (m_now ((21 : Int32) + v12).toNatClampNeg)), (5, .int v12), (0, .ref ax), (1, .int w), (2, .int i)]) hx hb dX8_soonest_175 hl (by decide) rfl (fun ls hl => ?_)
                    refine lv_iinc (v := (v12 + (1 : Int32))) (lv' := [(5, .int (v12 + (1 : Int32))), (4, .int v11), (3, .int v10), (8, .int (0 : Int32)), (7, .int r20), (6, .int (m_now ((21 : Int32) + v12).toNatClampNeg)), (0, .ref ax), (1, .int w), (2, .int i)]) hx hb dX8_soonest_177 hl (k := 5) rfl (by first | rfl | decide) (by decide) rfl (fun ls hl => ?_)
                    refine lv_goto (tgt := 45) hx hb dX8_soonest_180 (by decide) ?_
                    exact ih45 v10 v11 (v12 + (1 : Int32)) _ _ hP hD hS _ (lv_sub hl [0, 1, 2, 6, 7, 8] rfl) hF
                  · have hF := op_neg c22 hF
                    refine lv_aload_n hx hb dX8_soonest_118 rfl (lv_at hl 5 rfl) ?_
                    refine lv_iload hx hb dX8_soonest_119 (lv_at hl 1 rfl) ?_
                    refine lv_iload hx hb dX8_soonest_121 (lv_at hl 0 rfl) ?_
                    obtain ⟨r23, hb24, hF⟩ := op_bind hF
                    refine xVr (As := [.int (m_now ((21 : Int32) + v12).toNatClampNeg), .int r20]) (rest := []) hC hP hD hS [0, 1, 2] (c_X8_wornBy l D cI cC cM ax a_law a_now a_text a_told a_readLaw a_readNow a_tried a_undos a_seenHour a_seenAt a_parts a_partsThen a_kept m_letterMany m_readAt m_undoMany m_undoAt m_seenMany m_keptMany m_law m_now (m_now ((21 : Int32) + v12).toNatClampNeg) r20 r23 hb24) (cwV 2 hts gX8_soonest_X8_wornBy rfl rfl rfl ⟨rfl, pd_X8_wornBy⟩ ⟨Nat.le_of_ble_eq_true rfl, Nat.le_of_ble_eq_true rfl⟩) rfl rfl 0 8 rfl rfl rfl rfl hl.1 rfl (Nat.le_of_ble_eq_true rfl) dX8_soonest_123 ⟨Nat.zero_le _, Nat.zero_le _⟩ (fun H locs hP hS => ?_)
                    refine lv_bipush (v := (12 : Int32)) hx hb dX8_soonest_126 (by decide) ?_
                    refine lv_icmp_gt (tgt := 148) hx hb dX8_soonest_128 (by decide) (fun c25 => ?_) (fun c25 => ?_)
                    · have hF := op_pos c25 hF
                      refine lv_iconst (v := (0 : Int32)) hx hb dX8_soonest_148 (by decide) ?_
                      refine lv_istore (lv' := [(8, .int (0 : Int32)), (7, .int r20), (6, .int (m_now ((21 : Int32) + v12).toNatClampNeg)), (5, .int v12), (4, .int v11), (3, .int v10), (0, .ref ax), (1, .int w), (2, .int i)]) hx hb dX8_soonest_149 hl (by decide) rfl (fun ls hl => ?_)
                      refine lv_iload hx hb dX8_soonest_151 (lv_at hl 0 rfl) ?_
                      refine lv_if_eq (tgt := 161) hx hb dX8_soonest_153 (by decide) (fun _ => ?_) (fun c => absurd (by decide) c)
                      refine lv_iload_n hx hb dX8_soonest_161 rfl (lv_at hl 5 rfl) ?_
                      refine lv_istore_n (lv' := [(3, .int v10), (8, .int (0 : Int32)), (7, .int r20), (6, .int (m_now ((21 : Int32) + v12).toNatClampNeg)), (5, .int v12), (4, .int v11), (0, .ref ax), (1, .int w), (2, .int i)]) hx hb dX8_soonest_162 rfl hl (by decide) rfl (fun ls hl => ?_)
                      refine lv_iload hx hb dX8_soonest_163 (lv_at hl 1 rfl) ?_
                      refine lv_if_eq (tgt := 173) hx hb dX8_soonest_165 (by decide) (fun _ => ?_) (fun c => absurd (by decide) c)
                      refine lv_iload hx hb dX8_soonest_173 (lv_at hl 5 rfl) ?_
                      refine lv_istore (lv' := [(4, .int v11), (3, .int v10), (8, .int (0 : Int32)), (7, .int r20), (6, .int (m_now ((21 : Int32) + v12).toNatClampNeg)), (5, .int v12), (0, .ref ax), (1, .int w), (2, .int i)]) hx hb dX8_soonest_175 hl (by decide) rfl (fun ls hl => ?_)
                      refine lv_iinc (v := (v12 + (1 : Int32))) (lv' := [(5, .int (v12 + (1 : Int32))), (4, .int v11), (3, .int v10), (8, .int (0 : Int32)), (7, .int r20), (6, .int (m_now ((21 : Int32) + v12).toNatClampNeg)), (0, .ref ax), (1, .int w), (2, .int i)]) hx hb dX8_soonest_177 hl (k := 5) rfl (by first | rfl | decide) (by decide) rfl (fun ls hl => ?_)
                      refine lv_goto (tgt := 45) hx hb dX8_soonest_180 (by decide) ?_
                      exact ih45 v10 v11 (v12 + (1 : Int32)) _ _ hP hD hS _ (lv_sub hl [0, 1, 2, 6, 7, 8] rfl) hF
                    · have hF := op_neg c25 hF
                      refine lv_iload_n hx hb dX8_soonest_131 rfl (lv_at hl 4 rfl) ?_
                      refine lv_bipush (v := (-4 : Int32)) hx hb dX8_soonest_132 (by decide) ?_
                      refine lv_icmp_eq (tgt := 144) hx hb dX8_soonest_134 (by decide) (fun c26 => ?_) (fun c26 => ?_)
                      · have hF := op_pos c26 hF
                        refine lv_iconst (v := (1 : Int32)) hx hb dX8_soonest_144 (by decide) ?_
                        refine lv_goto (tgt := 149) hx hb dX8_soonest_145 (by decide) ?_
                        refine lv_istore (lv' := [(8, .int (1 : Int32)), (7, .int r20), (6, .int (m_now ((21 : Int32) + v12).toNatClampNeg)), (5, .int v12), (4, .int v11), (3, .int v10), (0, .ref ax), (1, .int w), (2, .int i)]) hx hb dX8_soonest_149 hl (by decide) rfl (fun ls hl => ?_)
                        refine lv_iload hx hb dX8_soonest_151 (lv_at hl 0 rfl) ?_
                        refine lv_if_eq (tgt := 161) hx hb dX8_soonest_153 (by decide) (fun c => absurd c (by decide)) (fun _ => ?_)
                        refine lv_iload hx hb dX8_soonest_156 (lv_at hl 3 rfl) ?_
                        refine lv_goto (tgt := 162) hx hb dX8_soonest_158 (by decide) ?_
                        refine lv_istore_n (lv' := [(3, .int v12), (8, .int (1 : Int32)), (7, .int r20), (6, .int (m_now ((21 : Int32) + v12).toNatClampNeg)), (5, .int v12), (4, .int v11), (0, .ref ax), (1, .int w), (2, .int i)]) hx hb dX8_soonest_162 rfl hl (by decide) rfl (fun ls hl => ?_)
                        refine lv_iload hx hb dX8_soonest_163 (lv_at hl 1 rfl) ?_
                        refine lv_if_eq (tgt := 173) hx hb dX8_soonest_165 (by decide) (fun c => absurd c (by decide)) (fun _ => ?_)
                        refine lv_iload hx hb dX8_soonest_168 (lv_at hl 2 rfl) ?_
                        refine lv_goto (tgt := 175) hx hb dX8_soonest_170 (by decide) ?_
                        refine lv_istore (lv' := [(4, .int r20), (3, .int v12), (8, .int (1 : Int32)), (7, .int r20), (6, .int (m_now ((21 : Int32) + v12).toNatClampNeg)), (5, .int v12), (0, .ref ax), (1, .int w), (2, .int i)]) hx hb dX8_soonest_175 hl (by decide) rfl (fun ls hl => ?_)
                        refine lv_iinc (v := (v12 + (1 : Int32))) (lv' := [(5, .int (v12 + (1 : Int32))), (4, .int r20), (3, .int v12), (8, .int (1 : Int32)), (7, .int r20), (6, .int (m_now ((21 : Int32) + v12).toNatClampNeg)), (0, .ref ax), (1, .int w), (2, .int i)]) hx hb dX8_soonest_177 hl (k := 5) rfl (by first | rfl | decide) (by decide) rfl (fun ls hl => ?_)
                        refine lv_goto (tgt := 45) hx hb dX8_soonest_180 (by decide) ?_
                        exact ih45 v12 r20 (v12 + (1 : Int32)) _ _ hP hD hS _ (lv_sub hl [0, 1, 2, 6, 7, 8] rfl) hF
                      · have hF := op_neg c26 hF
                        refine lv_iload hx hb dX8_soonest_137 (lv_at hl 0 rfl) ?_
                        refine lv_iload hx hb dX8_soonest_139 (lv_at hl 3 rfl) ?_
                        refine lv_icmp_ge (tgt := 148) hx hb dX8_soonest_141 (by decide) (fun c27 => ?_) (fun c27 => ?_)
                        · have hF := op_pos c27 hF
                          refine lv_iconst (v := (0 : Int32)) hx hb dX8_soonest_148 (by decide) ?_
                          refine lv_istore (lv' := [(8, .int (0 : Int32)), (7, .int r20), (6, .int (m_now ((21 : Int32) + v12).toNatClampNeg)), (5, .int v12), (4, .int v11), (3, .int v10), (0, .ref ax), (1, .int w), (2, .int i)]) hx hb dX8_soonest_149 hl (by decide) rfl (fun ls hl => ?_)
                          refine lv_iload hx hb dX8_soonest_151 (lv_at hl 0 rfl) ?_
                          refine lv_if_eq (tgt := 161) hx hb dX8_soonest_153 (by decide) (fun _ => ?_) (fun c => absurd (by decide) c)
                          refine lv_iload_n hx hb dX8_soonest_161 rfl (lv_at hl 5 rfl) ?_
                          refine lv_istore_n (lv' := [(3, .int v10), (8, .int (0 : Int32)), (7, .int r20), (6, .int (m_now ((21 : Int32) + v12).toNatClampNeg)), (5, .int v12), (4, .int v11), (0, .ref ax), (1, .int w), (2, .int i)]) hx hb dX8_soonest_162 rfl hl (by decide) rfl (fun ls hl => ?_)
                          refine lv_iload hx hb dX8_soonest_163 (lv_at hl 1 rfl) ?_
                          refine lv_if_eq (tgt := 173) hx hb dX8_soonest_165 (by decide) (fun _ => ?_) (fun c => absurd (by decide) c)
                          refine lv_iload hx hb dX8_soonest_173 (lv_at hl 5 rfl) ?_
                          refine lv_istore (lv' := [(4, .int v11), (3, .int v10), (8, .int (0 : Int32)), (7, .int r20), (6, .int (m_now ((21 : Int32) + v12).toNatClampNeg)), (5, .int v12), (0, .ref ax), (1, .int w), (2, .int i)]) hx hb dX8_soonest_175 hl (by decide) rfl (fun ls hl => ?_)
                          refine lv_iinc (v := (v12 + (1 : Int32))) (lv' := [(5, .int (v12 + (1 : Int32))), (4, .int v11), (3, .int v10), (8, .int (0 : Int32)), (7, .int r20), (6, .int (m_now ((21 : Int32) + v12).toNatClampNeg)), (0, .ref ax), (1, .int w), (2, .int i)]) hx hb dX8_soonest_177 hl (k := 5) rfl (by first | rfl | decide) (by decide) rfl (fun ls hl => ?_)
                          refine lv_goto (tgt := 45) hx hb dX8_soonest_180 (by decide) ?_
                          exact ih45 v10 v11 (v12 + (1 : Int32)) _ _ hP hD hS _ (lv_sub hl [0, 1, 2, 6, 7, 8] rfl) hF
                        · have hF := op_neg c27 hF
                          refine lv_iconst (v := (1 : Int32)) hx hb dX8_soonest_144 (by decide) ?_
                          refine lv_goto (tgt := 149) hx hb dX8_soonest_145 (by decide) ?_
                          refine lv_istore (lv' := [(8, .int (1 : Int32)), (7, .int r20), (6, .int (m_now ((21 : Int32) + v12).toNatClampNeg)), (5, .int v12), (4, .int v11), (3, .int v10), (0, .ref ax), (1, .int w), (2, .int i)]) hx hb dX8_soonest_149 hl (by decide) rfl (fun ls hl => ?_)
                          refine lv_iload hx hb dX8_soonest_151 (lv_at hl 0 rfl) ?_
                          refine lv_if_eq (tgt := 161) hx hb dX8_soonest_153 (by decide) (fun c => absurd c (by decide)) (fun _ => ?_)
                          refine lv_iload hx hb dX8_soonest_156 (lv_at hl 3 rfl) ?_
                          refine lv_goto (tgt := 162) hx hb dX8_soonest_158 (by decide) ?_
                          refine lv_istore_n (lv' := [(3, .int v12), (8, .int (1 : Int32)), (7, .int r20), (6, .int (m_now ((21 : Int32) + v12).toNatClampNeg)), (5, .int v12), (4, .int v11), (0, .ref ax), (1, .int w), (2, .int i)]) hx hb dX8_soonest_162 rfl hl (by decide) rfl (fun ls hl => ?_)
                          refine lv_iload hx hb dX8_soonest_163 (lv_at hl 1 rfl) ?_
                          refine lv_if_eq (tgt := 173) hx hb dX8_soonest_165 (by decide) (fun c => absurd c (by decide)) (fun _ => ?_)
                          refine lv_iload hx hb dX8_soonest_168 (lv_at hl 2 rfl) ?_
                          refine lv_goto (tgt := 175) hx hb dX8_soonest_170 (by decide) ?_
                          refine lv_istore (lv' := [(4, .int r20), (3, .int v12), (8, .int (1 : Int32)), (7, .int r20), (6, .int (m_now ((21 : Int32) + v12).toNatClampNeg)), (5, .int v12), (0, .ref ax), (1, .int w), (2, .int i)]) hx hb dX8_soonest_175 hl (by decide) rfl (fun ls hl => ?_)
                          refine lv_iinc (v := (v12 + (1 : Int32))) (lv' := [(5, .int (v12 + (1 : Int32))), (4, .int r20), (3, .int v12), (8, .int (1 : Int32)), (7, .int r20), (6, .int (m_now ((21 : Int32) + v12).toNatClampNeg)), (0, .ref ax), (1, .int w), (2, .int i)]) hx hb dX8_soonest_177 hl (k := 5) rfl (by first | rfl | decide) (by decide) rfl (fun ls hl => ?_)
                          refine lv_goto (tgt := 45) hx hb dX8_soonest_180 (by decide) ?_
                          exact ih45 v12 r20 (v12 + (1 : Int32)) _ _ hP hD hS _ (lv_sub hl [0, 1, 2, 6, 7, 8] rfl) hF
                · have hF := op_pos c18 hF
                  refine lv_bipush (v := (-4 : Int32)) hx hb dX8_soonest_89 (by decide) ?_
                  refine lv_goto (tgt := 109) hx hb dX8_soonest_91 (by decide) ?_
                  refine lv_istore (lv' := [(7, .int (-4 : Int32)), (6, .int (m_now ((21 : Int32) + v12).toNatClampNeg)), (5, .int v12), (4, .int v11), (3, .int v10), (0, .ref ax), (1, .int w), (2, .int i)]) hx hb dX8_soonest_109 hl (by decide) rfl (fun ls hl => ?_)
                  refine lv_iload hx hb dX8_soonest_111 (lv_at hl 0 rfl) ?_
                  refine lv_bipush (v := (-4 : Int32)) hx hb dX8_soonest_113 (by decide) ?_
                  refine lv_icmp_eq (tgt := 148) hx hb dX8_soonest_115 (by decide) (fun _ => ?_) (fun c => absurd (by decide) c)
                  refine lv_iconst (v := (0 : Int32)) hx hb dX8_soonest_148 (by decide) ?_
                  refine lv_istore (lv' := [(8, .int (0 : Int32)), (7, .int (-4 : Int32)), (6, .int (m_now ((21 : Int32) + v12).toNatClampNeg)), (5, .int v12), (4, .int v11), (3, .int v10), (0, .ref ax), (1, .int w), (2, .int i)]) hx hb dX8_soonest_149 hl (by decide) rfl (fun ls hl => ?_)
                  refine lv_iload hx hb dX8_soonest_151 (lv_at hl 0 rfl) ?_
                  refine lv_if_eq (tgt := 161) hx hb dX8_soonest_153 (by decide) (fun _ => ?_) (fun c => absurd (by decide) c)
                  refine lv_iload_n hx hb dX8_soonest_161 rfl (lv_at hl 5 rfl) ?_
                  refine lv_istore_n (lv' := [(3, .int v10), (8, .int (0 : Int32)), (7, .int (-4 : Int32)), (6, .int (m_now ((21 : Int32) + v12).toNatClampNeg)), (5, .int v12), (4, .int v11), (0, .ref ax), (1, .int w), (2, .int i)]) hx hb dX8_soonest_162 rfl hl (by decide) rfl (fun ls hl => ?_)
                  refine lv_iload hx hb dX8_soonest_163 (lv_at hl 1 rfl) ?_
                  refine lv_if_eq (tgt := 173) hx hb dX8_soonest_165 (by decide) (fun _ => ?_) (fun c => absurd (by decide) c)
                  refine lv_iload hx hb dX8_soonest_173 (lv_at hl 5 rfl) ?_
                  refine lv_istore (lv' := [(4, .int v11), (3, .int v10), (8, .int (0 : Int32)), (7, .int (-4 : Int32)), (6, .int (m_now ((21 : Int32) + v12).toNatClampNeg)), (5, .int v12), (0, .ref ax), (1, .int w), (2, .int i)]) hx hb dX8_soonest_175 hl (by decide) rfl (fun ls hl => ?_)
                  refine lv_iinc (v := (v12 + (1 : Int32))) (lv' := [(5, .int (v12 + (1 : Int32))), (4, .int v11), (3, .int v10), (8, .int (0 : Int32)), (7, .int (-4 : Int32)), (6, .int (m_now ((21 : Int32) + v12).toNatClampNeg)), (0, .ref ax), (1, .int w), (2, .int i)]) hx hb dX8_soonest_177 hl (k := 5) rfl (by first | rfl | decide) (by decide) rfl (fun ls hl => ?_)
                  refine lv_goto (tgt := 45) hx hb dX8_soonest_180 (by decide) ?_
                  exact ih45 v10 v11 (v12 + (1 : Int32)) _ _ hP hD hS _ (lv_sub hl [0, 1, 2, 6, 7, 8] rfl) hF
        refine hL45 _ (fun v10 v11 v12 H locs hP hD hS ls hl hF => ?_) 20000 (-4 : Int32) (-4 : Int32) (0 : Int32) _ _ hP hD hS _ (lv_sub hl [0, 1, 2, 3, 4, 5] rfl) hF
        refine lv_iload_n hx hb dX8_soonest_183 rfl (lv_at hl 2 rfl) ?_
        refine lv_if_ne (tgt := 191) hx hb dX8_soonest_184 (by decide) (fun c28 => ?_) (fun c28 => ?_)
        · have hF := op_neg c28 hF
          refine lv_iload hx hb dX8_soonest_191 (lv_at hl 0 rfl) ?_
          cases hF
          rw [hQ]
          exact xri hC hP hS dX8_soonest_193
        · have hF := op_pos c28 hF
          refine lv_iload_n hx hb dX8_soonest_187 rfl (lv_at hl 1 rfl) ?_
          refine lv_goto (tgt := 193) hx hb dX8_soonest_188 (by decide) ?_
          cases hF
          rw [hQ]
          exact xri hC hP hS dX8_soonest_193
      · have hF := op_neg c9 hF
        refine lv_bipush (v := (-2 : Int32)) hx hb dX8_soonest_32 (by decide) ?_
        cases hF
        rw [hQ]
        exact xri hC hP hS dX8_soonest_34
    · have hF := op_pos c6 hF
      refine lv_iconst (v := (-1 : Int32)) hx hb dX8_soonest_17 (by decide) ?_
      cases hF
      rw [hQ]
      exact xri hC hP hS dX8_soonest_18

def f_X8_see (m_seenMany : Int32) (m_seenHour : (Nat → Int32)) (m_seenAt : (Nat → Int32)) (h : Int32) (n : Int32) : Option (Int32 × Int32 × (Nat → Int32) × (Nat → Int32)) := (Option.bind (f_X8_isHour h) fun r1 => (if r1 = 0 then (some ((-1 : Int32), m_seenMany, m_seenHour, m_seenAt)) else (Option.bind (f_X8_in n (0 : Int32) (30 : Int32)) fun r4 => (if r4 = 0 then (some ((-1 : Int32), m_seenMany, m_seenHour, m_seenAt)) else (if m_seenMany = (6 : Int32) then (some ((-3 : Int32), m_seenMany, m_seenHour, m_seenAt)) else (if okb m_seenMany 6 = true then (some ((m_seenMany + (1 : Int32)), (m_seenMany + (1 : Int32)), (upd m_seenHour m_seenMany.toNatClampNeg h), (upd m_seenAt m_seenMany.toNatClampNeg n))) else none))))))

def rm_X8_see : Room := { frames := 2, cells := 0, slots := 0, locals := 42 }

theorem pd_X8_see : yX8_see.cls ≠ "java/lang/invoke/MethodHandle" ∧ yX8_see.cls ≠ "java/lang/invoke/VarHandle" ∧ (parseMethodDescriptor yX8_see.desc).map (fun d => d.parameters.length) = some 2 := by decide +kernel

set_option maxHeartbeats 4000000 in
set_option maxRecDepth 100000 in
theorem c_X8_see (l : Launch) (D : va_G) (cI cC cM : ClassId) (ax a_seenHour a_seenAt a_text a_told a_readLaw a_readNow a_law a_now a_tried a_undos a_parts a_partsThen a_kept : Nat) (m_letterMany : Int32) (m_readAt : Int32) (m_undoMany : Int32) (m_undoAt : Int32) (m_seenMany : Int32) (m_keptMany : Int32) (m_seenHour : (Nat → Int32)) (m_seenAt : (Nat → Int32)) (h : Int32) (n : Int32) (rr : Int32) (m_seenMany' : Int32) (m_seenHour' : (Nat → Int32)) (m_seenAt' : (Nat → Int32)) (hF : f_X8_see m_seenMany m_seenHour m_seenAt h n = some (rr, m_seenMany', m_seenHour', m_seenAt')) : CI l D cI cC cM yX8_see wsX8_see rm_X8_see [.ref ax, .int h, .int n] [(ax, .inr (8, [.int m_letterMany, .ref a_text, .int m_readAt, .ref a_told, .ref a_readLaw, .ref a_readNow, .ref a_law, .ref a_now, .ref a_tried, .int m_undoMany, .int m_undoAt, .ref a_undos, .int m_seenMany, .ref a_seenHour, .ref a_seenAt, .ref a_parts, .ref a_partsThen, .int m_keptMany, .ref a_kept])), (a_seenHour, .inl (cI, 6, .inl m_seenHour)), (a_seenAt, .inl (cI, 6, .inl m_seenAt))] [(ax, .inr (8, [.int m_letterMany, .ref a_text, .int m_readAt, .ref a_told, .ref a_readLaw, .ref a_readNow, .ref a_law, .ref a_now, .ref a_tried, .int m_undoMany, .int m_undoAt, .ref a_undos, .int m_seenMany', .ref a_seenHour, .ref a_seenAt, .ref a_parts, .ref a_partsThen, .int m_keptMany, .ref a_kept])), (a_seenHour, .inl (cI, 6, .inl m_seenHour')), (a_seenAt, .inl (cI, 6, .inl m_seenAt'))] rr := by
  refine CI.of (cc := cX8_see) (nL := 3) (ret := (some .int)) (by decide) rfl (Nat.le_of_ble_eq_true rfl) ?_
  intro p e s m args below meth c A hC hP hD hS ls hl
  obtain ⟨hx, hb, hml, hown, hts, hr, hlk, hG, hA⟩ := id hC
  have hown : s.vm.findClass RX8 = some m.cls := hown
  have hK := hG.1
  have hl : lv_has ls 3 [(0, .ref ax), (1, .int h), (2, .int n)] := hl
  have k_f105 := hts (.fieldLink RX8 105 "ParasolHoursModel" "seenMany" "I") (List.mem_of_getElem? (i := 1) rfl)
  have k_f34 := hts (.fieldLink RX8 34 "ParasolHoursModel" "seenHour" "[I") (List.mem_of_getElem? (i := 2) rfl)
  have k_f37 := hts (.fieldLink RX8 37 "ParasolHoursModel" "seenAt" "[I") (List.mem_of_getElem? (i := 3) rfl)
  have iX8 : ∀ w ∈ wsX80, w ∈ wsX8_see := by decide +kernel
  obtain ⟨Q, hQ⟩ : ∃ Q, Q = MQ below (QI D [(ax, .inr (8, [.int m_letterMany, .ref a_text, .int m_readAt, .ref a_told, .ref a_readLaw, .ref a_readNow, .ref a_law, .ref a_now, .ref a_tried, .int m_undoMany, .int m_undoAt, .ref a_undos, .int m_seenMany', .ref a_seenHour, .ref a_seenAt, .ref a_parts, .ref a_partsThen, .int m_keptMany, .ref a_kept])), (a_seenHour, .inl (cI, 6, .inl m_seenHour')), (a_seenAt, .inl (cI, 6, .inl m_seenAt'))] rr A) args s 0 0 A := ⟨_, rfl⟩
  rw [← hQ]
  unfold f_X8_see at hF
  refine lv_iload_n hx hb dX8_see_0 rfl (lv_at hl 1 rfl) ?_
  obtain ⟨r1, hb2, hF⟩ := op_bind hF
  refine xSr (As := [.int h]) (rest := []) hC hP hD hS [] (c_X8_isHour l D cI cC cM h r1 hb2) (va_cwS 1 hts gX8_see_X8_isHour rfl rfl rfl pd_X8_isHour ⟨Nat.le_of_ble_eq_true rfl, Nat.le_of_ble_eq_true rfl⟩) rfl rfl rfl hl.1 rfl (Nat.le_of_ble_eq_true rfl) dX8_see_1 ⟨Nat.zero_le _, Nat.zero_le _⟩ (fun H locs hP hS => ?_)
  refine lv_if_eq (tgt := 17) hx hb dX8_see_4 (by decide) (fun c3 => ?_) (fun c3 => ?_)
  · have hF := op_pos c3 hF
    refine lv_iconst (v := (-1 : Int32)) hx hb dX8_see_17 (by decide) ?_
    cases hF
    rw [hQ]
    exact xri hC hP hS dX8_see_18
  · have hF := op_neg c3 hF
    refine lv_iload_n hx hb dX8_see_7 rfl (lv_at hl 2 rfl) ?_
    refine lv_iconst (v := (0 : Int32)) hx hb dX8_see_8 (by decide) ?_
    refine lv_bipush (v := (30 : Int32)) hx hb dX8_see_9 (by decide) ?_
    obtain ⟨r4, hb5, hF⟩ := op_bind hF
    refine xSr (As := [.int n, .int (0 : Int32), .int (30 : Int32)]) (rest := []) hC hP hD hS [] (c_X8_in l D cI cC cM n (0 : Int32) (30 : Int32) r4 hb5) (va_cwS 3 hts gX8_see_X8_in rfl rfl rfl pd_X8_in ⟨Nat.le_of_ble_eq_true rfl, Nat.le_of_ble_eq_true rfl⟩) rfl rfl rfl hl.1 rfl (Nat.le_of_ble_eq_true rfl) dX8_see_11 ⟨Nat.zero_le _, Nat.zero_le _⟩ (fun H locs hP hS => ?_)
    refine lv_if_ne (tgt := 19) hx hb dX8_see_14 (by decide) (fun c6 => ?_) (fun c6 => ?_)
    · have hF := op_neg c6 hF
      refine lv_aload_n hx hb dX8_see_19 rfl (lv_at hl 0 rfl) ?_
      refine va_get (D := D) (ci := 8) (v := .int m_seenMany) (C := RX8) (T := TX8) (N := 19) hx hb hts iX8 hown hK hP 0 rfl rfl 12 (by decide) k_f105 (fun _ h9 => h9) rfl dX8_see_20 ?_
      refine lv_bipush (v := (6 : Int32)) hx hb dX8_see_23 (by decide) ?_
      refine lv_icmp_ne (tgt := 31) hx hb dX8_see_25 (by decide) (fun c7 => ?_) (fun c7 => ?_)
      · have hF := op_neg c7 hF
        refine lv_aload_n hx hb dX8_see_31 rfl (lv_at hl 0 rfl) ?_
        refine va_get (D := D) (ci := 8) (v := .ref a_seenHour) (C := RX8) (T := TX8) (N := 19) hx hb hts iX8 hown hK hP 0 rfl rfl 13 (by decide) k_f34 (fun _ h9 => h9) rfl dX8_see_32 ?_
        refine lv_aload_n hx hb dX8_see_35 rfl (lv_at hl 0 rfl) ?_
        refine va_get (D := D) (ci := 8) (v := .int m_seenMany) (C := RX8) (T := TX8) (N := 19) hx hb hts iX8 hown hK hP 0 rfl rfl 12 (by decide) k_f105 (fun _ h9 => h9) rfl dX8_see_36 ?_
        refine lv_iload_n hx hb dX8_see_39 rfl (lv_at hl 1 rfl) ?_
        obtain ⟨o8, hF⟩ := op_ob hF
        refine va_iast hx hb hK hP hD hS 1 0 rfl rfl (okb_in o8) dX8_see_40 (fun H locs hP hD hS => ?_)
        have hP : va_P D vwCl [(ax, .inr (8, [.int m_letterMany, .ref a_text, .int m_readAt, .ref a_told, .ref a_readLaw, .ref a_readNow, .ref a_law, .ref a_now, .ref a_tried, .int m_undoMany, .int m_undoAt, .ref a_undos, .int m_seenMany, .ref a_seenHour, .ref a_seenAt, .ref a_parts, .ref a_partsThen, .int m_keptMany, .ref a_kept])), (a_seenHour, .inl (cI, 6, .inl (upd m_seenHour m_seenMany.toNatClampNeg h))), (a_seenAt, .inl (cI, 6, .inl m_seenAt))] H := hP
        have hD : va_D A [(ax, .inr (8, [.int m_letterMany, .ref a_text, .int m_readAt, .ref a_told, .ref a_readLaw, .ref a_readNow, .ref a_law, .ref a_now, .ref a_tried, .int m_undoMany, .int m_undoAt, .ref a_undos, .int m_seenMany, .ref a_seenHour, .ref a_seenAt, .ref a_parts, .ref a_partsThen, .int m_keptMany, .ref a_kept])), (a_seenHour, .inl (cI, 6, .inl (upd m_seenHour m_seenMany.toNatClampNeg h))), (a_seenAt, .inl (cI, 6, .inl m_seenAt))] := hD
        refine lv_aload_n hx hb dX8_see_41 rfl (lv_at hl 0 rfl) ?_
        refine va_get (D := D) (ci := 8) (v := .ref a_seenAt) (C := RX8) (T := TX8) (N := 19) hx hb hts iX8 hown hK hP 0 rfl rfl 14 (by decide) k_f37 (fun _ h9 => h9) rfl dX8_see_42 ?_
        refine lv_aload_n hx hb dX8_see_45 rfl (lv_at hl 0 rfl) ?_
        refine va_get (D := D) (ci := 8) (v := .int m_seenMany) (C := RX8) (T := TX8) (N := 19) hx hb hts iX8 hown hK hP 0 rfl rfl 12 (by decide) k_f105 (fun _ h9 => h9) rfl dX8_see_46 ?_
        refine lv_iload_n hx hb dX8_see_49 rfl (lv_at hl 2 rfl) ?_
        refine va_iast hx hb hK hP hD hS 2 0 rfl rfl (okb_in o8) dX8_see_50 (fun H locs hP hD hS => ?_)
        have hP : va_P D vwCl [(ax, .inr (8, [.int m_letterMany, .ref a_text, .int m_readAt, .ref a_told, .ref a_readLaw, .ref a_readNow, .ref a_law, .ref a_now, .ref a_tried, .int m_undoMany, .int m_undoAt, .ref a_undos, .int m_seenMany, .ref a_seenHour, .ref a_seenAt, .ref a_parts, .ref a_partsThen, .int m_keptMany, .ref a_kept])), (a_seenHour, .inl (cI, 6, .inl (upd m_seenHour m_seenMany.toNatClampNeg h))), (a_seenAt, .inl (cI, 6, .inl (upd m_seenAt m_seenMany.toNatClampNeg n)))] H := hP
        have hD : va_D A [(ax, .inr (8, [.int m_letterMany, .ref a_text, .int m_readAt, .ref a_told, .ref a_readLaw, .ref a_readNow, .ref a_law, .ref a_now, .ref a_tried, .int m_undoMany, .int m_undoAt, .ref a_undos, .int m_seenMany, .ref a_seenHour, .ref a_seenAt, .ref a_parts, .ref a_partsThen, .int m_keptMany, .ref a_kept])), (a_seenHour, .inl (cI, 6, .inl (upd m_seenHour m_seenMany.toNatClampNeg h))), (a_seenAt, .inl (cI, 6, .inl (upd m_seenAt m_seenMany.toNatClampNeg n)))] := hD
        refine lv_aload_n hx hb dX8_see_51 rfl (lv_at hl 0 rfl) ?_
        refine lv_dup hx hb dX8_see_52 rfl ?_
        refine va_get (D := D) (ci := 8) (v := .int m_seenMany) (C := RX8) (T := TX8) (N := 19) hx hb hts iX8 hown hK hP 0 rfl rfl 12 (by decide) k_f105 (fun _ h9 => h9) rfl dX8_see_53 ?_
        refine lv_iconst (v := (1 : Int32)) hx hb dX8_see_56 (by decide) ?_
        refine lv_iadd hx hb dX8_see_57 ?_
        refine va_put (D := D) (ci := 8) (v := .int (m_seenMany + (1 : Int32))) (ty := .int) (C := RX8) (T := TX8) (N := 19) hx hb hts iX8 tyX8 tyX8_ok nmX8 hown hK hP hD hS 0 rfl rfl 12 (by decide) k_f105 (fun _ h9 => h9) rfl (by decide +kernel) rfl rfl (Nat.le_of_ble_eq_true rfl) dX8_see_58 (fun H locs hP hD hS => ?_)
        have hP : va_P D vwCl [(ax, .inr (8, [.int m_letterMany, .ref a_text, .int m_readAt, .ref a_told, .ref a_readLaw, .ref a_readNow, .ref a_law, .ref a_now, .ref a_tried, .int m_undoMany, .int m_undoAt, .ref a_undos, .int (m_seenMany + (1 : Int32)), .ref a_seenHour, .ref a_seenAt, .ref a_parts, .ref a_partsThen, .int m_keptMany, .ref a_kept])), (a_seenHour, .inl (cI, 6, .inl (upd m_seenHour m_seenMany.toNatClampNeg h))), (a_seenAt, .inl (cI, 6, .inl (upd m_seenAt m_seenMany.toNatClampNeg n)))] H := hP
        have hD : va_D A [(ax, .inr (8, [.int m_letterMany, .ref a_text, .int m_readAt, .ref a_told, .ref a_readLaw, .ref a_readNow, .ref a_law, .ref a_now, .ref a_tried, .int m_undoMany, .int m_undoAt, .ref a_undos, .int (m_seenMany + (1 : Int32)), .ref a_seenHour, .ref a_seenAt, .ref a_parts, .ref a_partsThen, .int m_keptMany, .ref a_kept])), (a_seenHour, .inl (cI, 6, .inl (upd m_seenHour m_seenMany.toNatClampNeg h))), (a_seenAt, .inl (cI, 6, .inl (upd m_seenAt m_seenMany.toNatClampNeg n)))] := hD
        refine lv_aload_n hx hb dX8_see_61 rfl (lv_at hl 0 rfl) ?_
        refine va_get (D := D) (ci := 8) (v := .int (m_seenMany + (1 : Int32))) (C := RX8) (T := TX8) (N := 19) hx hb hts iX8 hown hK hP 0 rfl rfl 12 (by decide) k_f105 (fun _ h9 => h9) rfl dX8_see_62 ?_
        cases hF
        rw [hQ]
        exact xri hC hP hS dX8_see_65
      · have hF := op_pos c7 hF
        refine lv_bipush (v := (-3 : Int32)) hx hb dX8_see_28 (by decide) ?_
        cases hF
        rw [hQ]
        exact xri hC hP hS dX8_see_30
    · have hF := op_pos c6 hF
      refine lv_iconst (v := (-1 : Int32)) hx hb dX8_see_17 (by decide) ?_
      cases hF
      rw [hQ]
      exact xri hC hP hS dX8_see_18

def f_X8_forget (m_seenMany : Int32) : Option (Int32 × Int32) := (some (m_seenMany, (0 : Int32)))

def rm_X8_forget : Room := { frames := 0, cells := 0, slots := 0, locals := 0 }

theorem pd_X8_forget : yX8_forget.cls ≠ "java/lang/invoke/MethodHandle" ∧ yX8_forget.cls ≠ "java/lang/invoke/VarHandle" ∧ (parseMethodDescriptor yX8_forget.desc).map (fun d => d.parameters.length) = some 0 := by decide +kernel

set_option maxHeartbeats 4000000 in
set_option maxRecDepth 100000 in
theorem c_X8_forget (l : Launch) (D : va_G) (cI cC cM : ClassId) (ax a_text a_told a_readLaw a_readNow a_law a_now a_tried a_undos a_seenHour a_seenAt a_parts a_partsThen a_kept : Nat) (m_letterMany : Int32) (m_readAt : Int32) (m_undoMany : Int32) (m_undoAt : Int32) (m_seenMany : Int32) (m_keptMany : Int32) (rr : Int32) (m_seenMany' : Int32) (hF : f_X8_forget m_seenMany = some (rr, m_seenMany')) : CI l D cI cC cM yX8_forget wsX8_forget rm_X8_forget [.ref ax] [(ax, .inr (8, [.int m_letterMany, .ref a_text, .int m_readAt, .ref a_told, .ref a_readLaw, .ref a_readNow, .ref a_law, .ref a_now, .ref a_tried, .int m_undoMany, .int m_undoAt, .ref a_undos, .int m_seenMany, .ref a_seenHour, .ref a_seenAt, .ref a_parts, .ref a_partsThen, .int m_keptMany, .ref a_kept]))] [(ax, .inr (8, [.int m_letterMany, .ref a_text, .int m_readAt, .ref a_told, .ref a_readLaw, .ref a_readNow, .ref a_law, .ref a_now, .ref a_tried, .int m_undoMany, .int m_undoAt, .ref a_undos, .int m_seenMany', .ref a_seenHour, .ref a_seenAt, .ref a_parts, .ref a_partsThen, .int m_keptMany, .ref a_kept]))] rr := by
  refine CI.of (cc := cX8_forget) (nL := 2) (ret := (some .int)) (by decide) rfl (Nat.le_of_ble_eq_true rfl) ?_
  intro p e s m args below meth c A hC hP hD hS ls hl
  obtain ⟨hx, hb, hml, hown, hts, hr, hlk, hG, hA⟩ := id hC
  have hown : s.vm.findClass RX8 = some m.cls := hown
  have hK := hG.1
  have hl : lv_has ls 2 [(0, .ref ax)] := hl
  have k_f105 := hts (.fieldLink RX8 105 "ParasolHoursModel" "seenMany" "I") (List.mem_of_getElem? (i := 1) rfl)
  have iX8 : ∀ w ∈ wsX80, w ∈ wsX8_forget := by decide +kernel
  obtain ⟨Q, hQ⟩ : ∃ Q, Q = MQ below (QI D [(ax, .inr (8, [.int m_letterMany, .ref a_text, .int m_readAt, .ref a_told, .ref a_readLaw, .ref a_readNow, .ref a_law, .ref a_now, .ref a_tried, .int m_undoMany, .int m_undoAt, .ref a_undos, .int m_seenMany', .ref a_seenHour, .ref a_seenAt, .ref a_parts, .ref a_partsThen, .int m_keptMany, .ref a_kept]))] rr A) args s 0 0 A := ⟨_, rfl⟩
  rw [← hQ]
  unfold f_X8_forget at hF
  refine lv_aload_n hx hb dX8_forget_0 rfl (lv_at hl 0 rfl) ?_
  refine va_get (D := D) (ci := 8) (v := .int m_seenMany) (C := RX8) (T := TX8) (N := 19) hx hb hts iX8 hown hK hP 0 rfl rfl 12 (by decide) k_f105 (fun _ h9 => h9) rfl dX8_forget_1 ?_
  refine lv_istore_n (lv' := [(1, .int m_seenMany), (0, .ref ax)]) hx hb dX8_forget_4 rfl hl (by decide) rfl (fun ls hl => ?_)
  refine lv_aload_n hx hb dX8_forget_5 rfl (lv_at hl 1 rfl) ?_
  refine lv_iconst (v := (0 : Int32)) hx hb dX8_forget_6 (by decide) ?_
  refine va_put (D := D) (ci := 8) (v := .int (0 : Int32)) (ty := .int) (C := RX8) (T := TX8) (N := 19) hx hb hts iX8 tyX8 tyX8_ok nmX8 hown hK hP hD hS 0 rfl rfl 12 (by decide) k_f105 (fun _ h9 => h9) rfl (by decide +kernel) rfl rfl (Nat.le_of_ble_eq_true rfl) dX8_forget_7 (fun H locs hP hD hS => ?_)
  have hP : va_P D vwCl [(ax, .inr (8, [.int m_letterMany, .ref a_text, .int m_readAt, .ref a_told, .ref a_readLaw, .ref a_readNow, .ref a_law, .ref a_now, .ref a_tried, .int m_undoMany, .int m_undoAt, .ref a_undos, .int (0 : Int32), .ref a_seenHour, .ref a_seenAt, .ref a_parts, .ref a_partsThen, .int m_keptMany, .ref a_kept]))] H := hP
  have hD : va_D A [(ax, .inr (8, [.int m_letterMany, .ref a_text, .int m_readAt, .ref a_told, .ref a_readLaw, .ref a_readNow, .ref a_law, .ref a_now, .ref a_tried, .int m_undoMany, .int m_undoAt, .ref a_undos, .int (0 : Int32), .ref a_seenHour, .ref a_seenAt, .ref a_parts, .ref a_partsThen, .int m_keptMany, .ref a_kept]))] := hD
  refine lv_iload_n hx hb dX8_forget_10 rfl (lv_at hl 0 rfl) ?_
  cases hF
  rw [hQ]
  exact xri hC hP hS dX8_forget_11

def f_X8_isSeen_L5 (m_seenMany : Int32) (m_law : (Nat → Int32)) (m_now : (Nat → Int32)) (u : Int32) (h : Int32) (m_seenAt : (Nat → Int32)) (m_seenHour : (Nat → Int32)) (k5 : Int32 → Int32 → Option Int32) : Nat → Int32 → Int32 → Option Int32
  | 0, _, _ => none
  | nf5 + 1, v1, v2 => (if m_seenMany ≤ v2 then (k5 v1 v2) else (if v1 = 0 then (f_X8_isSeen_L5 m_seenMany m_law m_now u h m_seenAt m_seenHour k5 nf5 (0 : Int32) (v2 + (1 : Int32))) else (if okb v2 6 = true then (Option.bind (f_X8_onward m_law m_now u h (m_seenAt v2.toNatClampNeg)) fun r6 => (if r6 = (m_seenHour v2.toNatClampNeg) then (f_X8_isSeen_L5 m_seenMany m_law m_now u h m_seenAt m_seenHour k5 nf5 (1 : Int32) (v2 + (1 : Int32))) else (f_X8_isSeen_L5 m_seenMany m_law m_now u h m_seenAt m_seenHour k5 nf5 (0 : Int32) (v2 + (1 : Int32))))) else none)))
theorem f_X8_isSeen_L5_0 (m_seenMany : Int32) (m_law : (Nat → Int32)) (m_now : (Nat → Int32)) (u : Int32) (h : Int32) (m_seenAt : (Nat → Int32)) (m_seenHour : (Nat → Int32)) (k5 : Int32 → Int32 → Option Int32) (v1 : Int32) (v2 : Int32) : f_X8_isSeen_L5 m_seenMany m_law m_now u h m_seenAt m_seenHour k5 0 v1 v2 = none := rfl
theorem f_X8_isSeen_L5_s (m_seenMany : Int32) (m_law : (Nat → Int32)) (m_now : (Nat → Int32)) (u : Int32) (h : Int32) (m_seenAt : (Nat → Int32)) (m_seenHour : (Nat → Int32)) (k5 : Int32 → Int32 → Option Int32) (nf5 : Nat) (v1 : Int32) (v2 : Int32) : f_X8_isSeen_L5 m_seenMany m_law m_now u h m_seenAt m_seenHour k5 (nf5 + 1) v1 v2 = (if m_seenMany ≤ v2 then (k5 v1 v2) else (if v1 = 0 then (f_X8_isSeen_L5 m_seenMany m_law m_now u h m_seenAt m_seenHour k5 nf5 (0 : Int32) (v2 + (1 : Int32))) else (if okb v2 6 = true then (Option.bind (f_X8_onward m_law m_now u h (m_seenAt v2.toNatClampNeg)) fun r6 => (if r6 = (m_seenHour v2.toNatClampNeg) then (f_X8_isSeen_L5 m_seenMany m_law m_now u h m_seenAt m_seenHour k5 nf5 (1 : Int32) (v2 + (1 : Int32))) else (f_X8_isSeen_L5 m_seenMany m_law m_now u h m_seenAt m_seenHour k5 nf5 (0 : Int32) (v2 + (1 : Int32))))) else none))) := rfl

def f_X8_isSeen (m_seenMany : Int32) (m_law : (Nat → Int32)) (m_now : (Nat → Int32)) (m_seenHour : (Nat → Int32)) (m_seenAt : (Nat → Int32)) (u : Int32) (h : Int32) : Option Int32 := (f_X8_isSeen_L5 m_seenMany m_law m_now u h m_seenAt m_seenHour (fun (v1 : Int32) (v2 : Int32) => (if okz v1 = true then (some v1) else none)) 20000 (1 : Int32) (0 : Int32))

def rm_X8_isSeen : Room := { frames := 2, cells := 0, slots := 0, locals := 48 }

theorem pd_X8_isSeen : yX8_isSeen.cls ≠ "java/lang/invoke/MethodHandle" ∧ yX8_isSeen.cls ≠ "java/lang/invoke/VarHandle" ∧ (parseMethodDescriptor yX8_isSeen.desc).map (fun d => d.parameters.length) = some 2 := by decide +kernel

set_option maxHeartbeats 4000000 in
set_option maxRecDepth 100000 in
theorem c_X8_isSeen (l : Launch) (D : va_G) (cI cC cM : ClassId) (ax a_law a_now a_seenHour a_seenAt a_text a_told a_readLaw a_readNow a_tried a_undos a_parts a_partsThen a_kept : Nat) (m_letterMany : Int32) (m_readAt : Int32) (m_undoMany : Int32) (m_undoAt : Int32) (m_seenMany : Int32) (m_keptMany : Int32) (m_law : (Nat → Int32)) (m_now : (Nat → Int32)) (m_seenHour : (Nat → Int32)) (m_seenAt : (Nat → Int32)) (u : Int32) (h : Int32) (rr : Int32) (hF : f_X8_isSeen m_seenMany m_law m_now m_seenHour m_seenAt u h = some rr) : CI l D cI cC cM yX8_isSeen wsX8_isSeen rm_X8_isSeen [.ref ax, .int u, .int h] [(ax, .inr (8, [.int m_letterMany, .ref a_text, .int m_readAt, .ref a_told, .ref a_readLaw, .ref a_readNow, .ref a_law, .ref a_now, .ref a_tried, .int m_undoMany, .int m_undoAt, .ref a_undos, .int m_seenMany, .ref a_seenHour, .ref a_seenAt, .ref a_parts, .ref a_partsThen, .int m_keptMany, .ref a_kept])), (a_law, .inl (cI, 22, .inl m_law)), (a_now, .inl (cI, 26, .inl m_now)), (a_seenHour, .inl (cI, 6, .inl m_seenHour)), (a_seenAt, .inl (cI, 6, .inl m_seenAt))] [(ax, .inr (8, [.int m_letterMany, .ref a_text, .int m_readAt, .ref a_told, .ref a_readLaw, .ref a_readNow, .ref a_law, .ref a_now, .ref a_tried, .int m_undoMany, .int m_undoAt, .ref a_undos, .int m_seenMany, .ref a_seenHour, .ref a_seenAt, .ref a_parts, .ref a_partsThen, .int m_keptMany, .ref a_kept])), (a_law, .inl (cI, 22, .inl m_law)), (a_now, .inl (cI, 26, .inl m_now)), (a_seenHour, .inl (cI, 6, .inl m_seenHour)), (a_seenAt, .inl (cI, 6, .inl m_seenAt))] rr := by
  refine CI.of (cc := cX8_isSeen) (nL := 5) (ret := (some .boolean)) (by decide) rfl (Nat.le_of_ble_eq_true rfl) ?_
  intro p e s m args below meth c A hC hP hD hS ls hl
  obtain ⟨hx, hb, hml, hown, hts, hr, hlk, hG, hA⟩ := id hC
  have hown : s.vm.findClass RX8 = some m.cls := hown
  have hK := hG.1
  have hl : lv_has ls 5 [(0, .ref ax), (1, .int u), (2, .int h)] := hl
  have k_f105 := hts (.fieldLink RX8 105 "ParasolHoursModel" "seenMany" "I") (List.mem_of_getElem? (i := 1) rfl)
  have k_f37 := hts (.fieldLink RX8 37 "ParasolHoursModel" "seenAt" "[I") (List.mem_of_getElem? (i := 2) rfl)
  have k_f34 := hts (.fieldLink RX8 34 "ParasolHoursModel" "seenHour" "[I") (List.mem_of_getElem? (i := 3) rfl)
  have iX8 : ∀ w ∈ wsX80, w ∈ wsX8_isSeen := by decide +kernel
  obtain ⟨Q, hQ⟩ : ∃ Q, Q = MQ below (QI D [(ax, .inr (8, [.int m_letterMany, .ref a_text, .int m_readAt, .ref a_told, .ref a_readLaw, .ref a_readNow, .ref a_law, .ref a_now, .ref a_tried, .int m_undoMany, .int m_undoAt, .ref a_undos, .int m_seenMany, .ref a_seenHour, .ref a_seenAt, .ref a_parts, .ref a_partsThen, .int m_keptMany, .ref a_kept])), (a_law, .inl (cI, 22, .inl m_law)), (a_now, .inl (cI, 26, .inl m_now)), (a_seenHour, .inl (cI, 6, .inl m_seenHour)), (a_seenAt, .inl (cI, 6, .inl m_seenAt))] rr A) args s 0 0 A := ⟨_, rfl⟩
  rw [← hQ]
  unfold f_X8_isSeen at hF
  refine lv_iconst (v := (1 : Int32)) hx hb dX8_isSeen_0 (by decide) ?_
  refine lv_istore_n (lv' := [(3, .int (1 : Int32)), (0, .ref ax), (1, .int u), (2, .int h)]) hx hb dX8_isSeen_1 rfl hl (by decide) rfl (fun ls hl => ?_)
  refine lv_iconst (v := (0 : Int32)) hx hb dX8_isSeen_2 (by decide) ?_
  refine lv_istore (lv' := [(4, .int (0 : Int32)), (3, .int (1 : Int32)), (0, .ref ax), (1, .int u), (2, .int h)]) hx hb dX8_isSeen_3 hl (by decide) rfl (fun ls hl => ?_)
  have hL5 : ∀ (k5 : Int32 → Int32 → Option Int32), (∀ (v1 : Int32) (v2 : Int32) (H : Heap) (locs : List Loc), va_P D vwCl [(ax, .inr (8, [.int m_letterMany, .ref a_text, .int m_readAt, .ref a_told, .ref a_readLaw, .ref a_readNow, .ref a_law, .ref a_now, .ref a_tried, .int m_undoMany, .int m_undoAt, .ref a_undos, .int m_seenMany, .ref a_seenHour, .ref a_seenAt, .ref a_parts, .ref a_partsThen, .int m_keptMany, .ref a_kept])), (a_law, .inl (cI, 22, .inl m_law)), (a_now, .inl (cI, 26, .inl m_now)), (a_seenHour, .inl (cI, 6, .inl m_seenHour)), (a_seenAt, .inl (cI, 6, .inl m_seenAt))] H → va_D A [(ax, .inr (8, [.int m_letterMany, .ref a_text, .int m_readAt, .ref a_told, .ref a_readLaw, .ref a_readNow, .ref a_law, .ref a_now, .ref a_tried, .int m_undoMany, .int m_undoAt, .ref a_undos, .int m_seenMany, .ref a_seenHour, .ref a_seenAt, .ref a_parts, .ref a_partsThen, .int m_keptMany, .ref a_kept])), (a_law, .inl (cI, 22, .inl m_law)), (a_now, .inl (cI, 26, .inl m_now)), (a_seenHour, .inl (cI, 6, .inl m_seenHour)), (a_seenAt, .inl (cI, 6, .inl m_seenAt))] → va_S A s.heap H locs → ∀ ls : Array Slot, lv_has ls 5 [(3, .int v1)] → k5 v1 v2 = some rr → W p l e rm_X8_isSeen s m args below meth c H locs 0 0 Q (F0 m 53 ls [])) → ∀ (nf5 : Nat) (v1 : Int32) (v2 : Int32) (H : Heap) (locs : List Loc), va_P D vwCl [(ax, .inr (8, [.int m_letterMany, .ref a_text, .int m_readAt, .ref a_told, .ref a_readLaw, .ref a_readNow, .ref a_law, .ref a_now, .ref a_tried, .int m_undoMany, .int m_undoAt, .ref a_undos, .int m_seenMany, .ref a_seenHour, .ref a_seenAt, .ref a_parts, .ref a_partsThen, .int m_keptMany, .ref a_kept])), (a_law, .inl (cI, 22, .inl m_law)), (a_now, .inl (cI, 26, .inl m_now)), (a_seenHour, .inl (cI, 6, .inl m_seenHour)), (a_seenAt, .inl (cI, 6, .inl m_seenAt))] H → va_D A [(ax, .inr (8, [.int m_letterMany, .ref a_text, .int m_readAt, .ref a_told, .ref a_readLaw, .ref a_readNow, .ref a_law, .ref a_now, .ref a_tried, .int m_undoMany, .int m_undoAt, .ref a_undos, .int m_seenMany, .ref a_seenHour, .ref a_seenAt, .ref a_parts, .ref a_partsThen, .int m_keptMany, .ref a_kept])), (a_law, .inl (cI, 22, .inl m_law)), (a_now, .inl (cI, 26, .inl m_now)), (a_seenHour, .inl (cI, 6, .inl m_seenHour)), (a_seenAt, .inl (cI, 6, .inl m_seenAt))] → va_S A s.heap H locs → ∀ ls : Array Slot, lv_has ls 5 [(4, .int v2), (3, .int v1), (0, .ref ax), (1, .int u), (2, .int h)] → f_X8_isSeen_L5 m_seenMany m_law m_now u h m_seenAt m_seenHour k5 nf5 v1 v2 = some rr → W p l e rm_X8_isSeen s m args below meth c H locs 0 0 Q (F0 m 5 ls []) := by
    intro k5 hk5 nf5
    induction nf5 with
    | zero =>
      intro v1 v2 H locs hP hD hS ls hl hF
      rw [f_X8_isSeen_L5_0] at hF
      cases hF
    | succ nf5 ih5 =>
      intro v1 v2 H locs hP hD hS ls hl hF
      rw [f_X8_isSeen_L5_s] at hF
      refine lv_iload hx hb dX8_isSeen_5 (lv_at hl 0 rfl) ?_
      refine lv_aload_n hx hb dX8_isSeen_7 rfl (lv_at hl 2 rfl) ?_
      refine va_get (D := D) (ci := 8) (v := .int m_seenMany) (C := RX8) (T := TX8) (N := 19) hx hb hts iX8 hown hK hP 0 rfl rfl 12 (by decide) k_f105 (fun _ h9 => h9) rfl dX8_isSeen_8 ?_
      refine lv_icmp_ge (tgt := 53) hx hb dX8_isSeen_11 (by decide) (fun c3 => ?_) (fun c3 => ?_)
      · have hF := op_pos c3 hF
        exact hk5 v1 v2 _ _ hP hD hS _ (lv_sub hl [1] rfl) hF
      · have hF := op_neg c3 hF
        refine lv_iload_n hx hb dX8_isSeen_14 rfl (lv_at hl 1 rfl) ?_
        refine lv_if_eq (tgt := 45) hx hb dX8_isSeen_15 (by decide) (fun c4 => ?_) (fun c4 => ?_)
        · have hF := op_pos c4 hF
          refine lv_iconst (v := (0 : Int32)) hx hb dX8_isSeen_45 (by decide) ?_
          refine lv_istore_n (lv' := [(3, .int (0 : Int32)), (4, .int v2), (0, .ref ax), (1, .int u), (2, .int h)]) hx hb dX8_isSeen_46 rfl hl (by decide) rfl (fun ls hl => ?_)
          refine lv_iinc (v := (v2 + (1 : Int32))) (lv' := [(4, .int (v2 + (1 : Int32))), (3, .int (0 : Int32)), (0, .ref ax), (1, .int u), (2, .int h)]) hx hb dX8_isSeen_47 hl (k := 1) rfl (by first | rfl | decide) (by decide) rfl (fun ls hl => ?_)
          refine lv_goto (tgt := 5) hx hb dX8_isSeen_50 (by decide) ?_
          exact ih5 (0 : Int32) (v2 + (1 : Int32)) _ _ hP hD hS _ (lv_sub hl [0, 1, 2, 3, 4] rfl) hF
        · have hF := op_neg c4 hF
          refine lv_aload_n hx hb dX8_isSeen_18 rfl (lv_at hl 2 rfl) ?_
          refine lv_iload_n hx hb dX8_isSeen_19 rfl (lv_at hl 3 rfl) ?_
          refine lv_iload_n hx hb dX8_isSeen_20 rfl (lv_at hl 4 rfl) ?_
          refine lv_aload_n hx hb dX8_isSeen_21 rfl (lv_at hl 2 rfl) ?_
          refine va_get (D := D) (ci := 8) (v := .ref a_seenAt) (C := RX8) (T := TX8) (N := 19) hx hb hts iX8 hown hK hP 0 rfl rfl 14 (by decide) k_f37 (fun _ h9 => h9) rfl dX8_isSeen_22 ?_
          refine lv_iload hx hb dX8_isSeen_25 (lv_at hl 0 rfl) ?_
          obtain ⟨o5, hF⟩ := op_ob hF
          refine va_iald hx hb hK hP 4 0 rfl rfl (okb_in o5) dX8_isSeen_27 ?_
          obtain ⟨r6, hb7, hF⟩ := op_bind hF
          refine xVr (As := [.int u, .int h, .int (m_seenAt v2.toNatClampNeg)]) (rest := []) hC hP hD hS [0, 1, 2] (c_X8_onward l D cI cC cM ax a_law a_now a_text a_told a_readLaw a_readNow a_tried a_undos a_seenHour a_seenAt a_parts a_partsThen a_kept m_letterMany m_readAt m_undoMany m_undoAt m_seenMany m_keptMany m_law m_now u h (m_seenAt v2.toNatClampNeg) r6 hb7) (cwV 3 hts gX8_isSeen_X8_onward rfl rfl rfl ⟨rfl, pd_X8_onward⟩ ⟨Nat.le_of_ble_eq_true rfl, Nat.le_of_ble_eq_true rfl⟩) rfl rfl 0 8 rfl rfl rfl rfl hl.1 rfl (Nat.le_of_ble_eq_true rfl) dX8_isSeen_28 ⟨Nat.zero_le _, Nat.zero_le _⟩ (fun H locs hP hS => ?_)
          refine lv_aload_n hx hb dX8_isSeen_31 rfl (lv_at hl 2 rfl) ?_
          refine va_get (D := D) (ci := 8) (v := .ref a_seenHour) (C := RX8) (T := TX8) (N := 19) hx hb hts iX8 hown hK hP 0 rfl rfl 13 (by decide) k_f34 (fun _ h9 => h9) rfl dX8_isSeen_32 ?_
          refine lv_iload hx hb dX8_isSeen_35 (lv_at hl 0 rfl) ?_
          refine va_iald hx hb hK hP 3 0 rfl rfl (okb_in o5) dX8_isSeen_37 ?_
          refine lv_icmp_ne (tgt := 45) hx hb dX8_isSeen_38 (by decide) (fun c8 => ?_) (fun c8 => ?_)
          · have hF := op_neg c8 hF
            refine lv_iconst (v := (0 : Int32)) hx hb dX8_isSeen_45 (by decide) ?_
            refine lv_istore_n (lv' := [(3, .int (0 : Int32)), (4, .int v2), (0, .ref ax), (1, .int u), (2, .int h)]) hx hb dX8_isSeen_46 rfl hl (by decide) rfl (fun ls hl => ?_)
            refine lv_iinc (v := (v2 + (1 : Int32))) (lv' := [(4, .int (v2 + (1 : Int32))), (3, .int (0 : Int32)), (0, .ref ax), (1, .int u), (2, .int h)]) hx hb dX8_isSeen_47 hl (k := 1) rfl (by first | rfl | decide) (by decide) rfl (fun ls hl => ?_)
            refine lv_goto (tgt := 5) hx hb dX8_isSeen_50 (by decide) ?_
            exact ih5 (0 : Int32) (v2 + (1 : Int32)) _ _ hP hD hS _ (lv_sub hl [0, 1, 2, 3, 4] rfl) hF
          · have hF := op_pos c8 hF
            refine lv_iconst (v := (1 : Int32)) hx hb dX8_isSeen_41 (by decide) ?_
            refine lv_goto (tgt := 46) hx hb dX8_isSeen_42 (by decide) ?_
            refine lv_istore_n (lv' := [(3, .int (1 : Int32)), (4, .int v2), (0, .ref ax), (1, .int u), (2, .int h)]) hx hb dX8_isSeen_46 rfl hl (by decide) rfl (fun ls hl => ?_)
            refine lv_iinc (v := (v2 + (1 : Int32))) (lv' := [(4, .int (v2 + (1 : Int32))), (3, .int (1 : Int32)), (0, .ref ax), (1, .int u), (2, .int h)]) hx hb dX8_isSeen_47 hl (k := 1) rfl (by first | rfl | decide) (by decide) rfl (fun ls hl => ?_)
            refine lv_goto (tgt := 5) hx hb dX8_isSeen_50 (by decide) ?_
            exact ih5 (1 : Int32) (v2 + (1 : Int32)) _ _ hP hD hS _ (lv_sub hl [0, 1, 2, 3, 4] rfl) hF
  refine hL5 _ (fun v1 v2 H locs hP hD hS ls hl hF => ?_) 20000 (1 : Int32) (0 : Int32) _ _ hP hD hS _ (lv_sub hl [0, 1, 2, 3, 4] rfl) hF
  refine lv_iload_n hx hb dX8_isSeen_53 rfl (lv_at hl 0 rfl) ?_
  obtain ⟨z9, hF⟩ := op_ob hF
  cases hF
  rw [hQ]
  exact xrz hC (okz_n z9) hP hS dX8_isSeen_54

def f_X8_which_L4 (m_law : (Nat → Int32)) (m_seenMany : Int32) (m_now : (Nat → Int32)) (m_seenHour : (Nat → Int32)) (m_seenAt : (Nat → Int32)) (k4 : Int32 → Int32 → Option Int32) : Nat → Int32 → Int32 → Option Int32
  | 0, _, _ => none
  | nf4 + 1, v1, v2 => (if (m_law (1 : Int32).toNatClampNeg) ≤ v2 then (k4 v1 v2) else (if okb ((4 : Int32) + v2) 26 = true then (Option.bind (f_X8_isSeen m_seenMany m_law m_now m_seenHour m_seenAt v2 (m_now ((4 : Int32) + v2).toNatClampNeg)) fun r5 => (if r5 = 0 then (f_X8_which_L4 m_law m_seenMany m_now m_seenHour m_seenAt k4 nf4 (v1 ||| (0 : Int32)) (v2 + (1 : Int32))) else (f_X8_which_L4 m_law m_seenMany m_now m_seenHour m_seenAt k4 nf4 (v1 ||| ((1 : Int32) <<< (v2 &&& 31))) (v2 + (1 : Int32))))) else none))
theorem f_X8_which_L4_0 (m_law : (Nat → Int32)) (m_seenMany : Int32) (m_now : (Nat → Int32)) (m_seenHour : (Nat → Int32)) (m_seenAt : (Nat → Int32)) (k4 : Int32 → Int32 → Option Int32) (v1 : Int32) (v2 : Int32) : f_X8_which_L4 m_law m_seenMany m_now m_seenHour m_seenAt k4 0 v1 v2 = none := rfl
theorem f_X8_which_L4_s (m_law : (Nat → Int32)) (m_seenMany : Int32) (m_now : (Nat → Int32)) (m_seenHour : (Nat → Int32)) (m_seenAt : (Nat → Int32)) (k4 : Int32 → Int32 → Option Int32) (nf4 : Nat) (v1 : Int32) (v2 : Int32) : f_X8_which_L4 m_law m_seenMany m_now m_seenHour m_seenAt k4 (nf4 + 1) v1 v2 = (if (m_law (1 : Int32).toNatClampNeg) ≤ v2 then (k4 v1 v2) else (if okb ((4 : Int32) + v2) 26 = true then (Option.bind (f_X8_isSeen m_seenMany m_law m_now m_seenHour m_seenAt v2 (m_now ((4 : Int32) + v2).toNatClampNeg)) fun r5 => (if r5 = 0 then (f_X8_which_L4 m_law m_seenMany m_now m_seenHour m_seenAt k4 nf4 (v1 ||| (0 : Int32)) (v2 + (1 : Int32))) else (f_X8_which_L4 m_law m_seenMany m_now m_seenHour m_seenAt k4 nf4 (v1 ||| ((1 : Int32) <<< (v2 &&& 31))) (v2 + (1 : Int32))))) else none)) := rfl

def f_X8_which (m_seenMany : Int32) (m_law : (Nat → Int32)) (m_now : (Nat → Int32)) (m_seenHour : (Nat → Int32)) (m_seenAt : (Nat → Int32)) : Option Int32 := (f_X8_which_L4 m_law m_seenMany m_now m_seenHour m_seenAt (fun (v1 : Int32) (v2 : Int32) => (some v1)) 20000 (0 : Int32) (0 : Int32))

def rm_X8_which : Room := { frames := 3, cells := 0, slots := 0, locals := 72 }

theorem pd_X8_which : yX8_which.cls ≠ "java/lang/invoke/MethodHandle" ∧ yX8_which.cls ≠ "java/lang/invoke/VarHandle" ∧ (parseMethodDescriptor yX8_which.desc).map (fun d => d.parameters.length) = some 0 := by decide +kernel

set_option maxHeartbeats 4000000 in
set_option maxRecDepth 100000 in
theorem c_X8_which (l : Launch) (D : va_G) (cI cC cM : ClassId) (ax a_law a_now a_seenHour a_seenAt a_text a_told a_readLaw a_readNow a_tried a_undos a_parts a_partsThen a_kept : Nat) (m_letterMany : Int32) (m_readAt : Int32) (m_undoMany : Int32) (m_undoAt : Int32) (m_seenMany : Int32) (m_keptMany : Int32) (m_law : (Nat → Int32)) (m_now : (Nat → Int32)) (m_seenHour : (Nat → Int32)) (m_seenAt : (Nat → Int32)) (rr : Int32) (hF : f_X8_which m_seenMany m_law m_now m_seenHour m_seenAt = some rr) : CI l D cI cC cM yX8_which wsX8_which rm_X8_which [.ref ax] [(ax, .inr (8, [.int m_letterMany, .ref a_text, .int m_readAt, .ref a_told, .ref a_readLaw, .ref a_readNow, .ref a_law, .ref a_now, .ref a_tried, .int m_undoMany, .int m_undoAt, .ref a_undos, .int m_seenMany, .ref a_seenHour, .ref a_seenAt, .ref a_parts, .ref a_partsThen, .int m_keptMany, .ref a_kept])), (a_law, .inl (cI, 22, .inl m_law)), (a_now, .inl (cI, 26, .inl m_now)), (a_seenHour, .inl (cI, 6, .inl m_seenHour)), (a_seenAt, .inl (cI, 6, .inl m_seenAt))] [(ax, .inr (8, [.int m_letterMany, .ref a_text, .int m_readAt, .ref a_told, .ref a_readLaw, .ref a_readNow, .ref a_law, .ref a_now, .ref a_tried, .int m_undoMany, .int m_undoAt, .ref a_undos, .int m_seenMany, .ref a_seenHour, .ref a_seenAt, .ref a_parts, .ref a_partsThen, .int m_keptMany, .ref a_kept])), (a_law, .inl (cI, 22, .inl m_law)), (a_now, .inl (cI, 26, .inl m_now)), (a_seenHour, .inl (cI, 6, .inl m_seenHour)), (a_seenAt, .inl (cI, 6, .inl m_seenAt))] rr := by
  refine CI.of (cc := cX8_which) (nL := 3) (ret := (some .int)) (by decide) rfl (Nat.le_of_ble_eq_true rfl) ?_
  intro p e s m args below meth c A hC hP hD hS ls hl
  obtain ⟨hx, hb, hml, hown, hts, hr, hlk, hG, hA⟩ := id hC
  have hown : s.vm.findClass RX8 = some m.cls := hown
  have hK := hG.1
  have hl : lv_has ls 3 [(0, .ref ax)] := hl
  have k_f22 := hts (.fieldLink RX8 22 "ParasolHoursModel" "law" "[I") (List.mem_of_getElem? (i := 1) rfl)
  have k_f25 := hts (.fieldLink RX8 25 "ParasolHoursModel" "now" "[I") (List.mem_of_getElem? (i := 2) rfl)
  have iX8 : ∀ w ∈ wsX80, w ∈ wsX8_which := by decide +kernel
  obtain ⟨Q, hQ⟩ : ∃ Q, Q = MQ below (QI D [(ax, .inr (8, [.int m_letterMany, .ref a_text, .int m_readAt, .ref a_told, .ref a_readLaw, .ref a_readNow, .ref a_law, .ref a_now, .ref a_tried, .int m_undoMany, .int m_undoAt, .ref a_undos, .int m_seenMany, .ref a_seenHour, .ref a_seenAt, .ref a_parts, .ref a_partsThen, .int m_keptMany, .ref a_kept])), (a_law, .inl (cI, 22, .inl m_law)), (a_now, .inl (cI, 26, .inl m_now)), (a_seenHour, .inl (cI, 6, .inl m_seenHour)), (a_seenAt, .inl (cI, 6, .inl m_seenAt))] rr A) args s 0 0 A := ⟨_, rfl⟩
  rw [← hQ]
  unfold f_X8_which at hF
  refine lv_iconst (v := (0 : Int32)) hx hb dX8_which_0 (by decide) ?_
  refine lv_istore_n (lv' := [(1, .int (0 : Int32)), (0, .ref ax)]) hx hb dX8_which_1 rfl hl (by decide) rfl (fun ls hl => ?_)
  refine lv_iconst (v := (0 : Int32)) hx hb dX8_which_2 (by decide) ?_
  refine lv_istore_n (lv' := [(2, .int (0 : Int32)), (1, .int (0 : Int32)), (0, .ref ax)]) hx hb dX8_which_3 rfl hl (by decide) rfl (fun ls hl => ?_)
  have hL4 : ∀ (k4 : Int32 → Int32 → Option Int32), (∀ (v1 : Int32) (v2 : Int32) (H : Heap) (locs : List Loc), va_P D vwCl [(ax, .inr (8, [.int m_letterMany, .ref a_text, .int m_readAt, .ref a_told, .ref a_readLaw, .ref a_readNow, .ref a_law, .ref a_now, .ref a_tried, .int m_undoMany, .int m_undoAt, .ref a_undos, .int m_seenMany, .ref a_seenHour, .ref a_seenAt, .ref a_parts, .ref a_partsThen, .int m_keptMany, .ref a_kept])), (a_law, .inl (cI, 22, .inl m_law)), (a_now, .inl (cI, 26, .inl m_now)), (a_seenHour, .inl (cI, 6, .inl m_seenHour)), (a_seenAt, .inl (cI, 6, .inl m_seenAt))] H → va_D A [(ax, .inr (8, [.int m_letterMany, .ref a_text, .int m_readAt, .ref a_told, .ref a_readLaw, .ref a_readNow, .ref a_law, .ref a_now, .ref a_tried, .int m_undoMany, .int m_undoAt, .ref a_undos, .int m_seenMany, .ref a_seenHour, .ref a_seenAt, .ref a_parts, .ref a_partsThen, .int m_keptMany, .ref a_kept])), (a_law, .inl (cI, 22, .inl m_law)), (a_now, .inl (cI, 26, .inl m_now)), (a_seenHour, .inl (cI, 6, .inl m_seenHour)), (a_seenAt, .inl (cI, 6, .inl m_seenAt))] → va_S A s.heap H locs → ∀ ls : Array Slot, lv_has ls 3 [(1, .int v1)] → k4 v1 v2 = some rr → W p l e rm_X8_which s m args below meth c H locs 0 0 Q (F0 m 46 ls [])) → ∀ (nf4 : Nat) (v1 : Int32) (v2 : Int32) (H : Heap) (locs : List Loc), va_P D vwCl [(ax, .inr (8, [.int m_letterMany, .ref a_text, .int m_readAt, .ref a_told, .ref a_readLaw, .ref a_readNow, .ref a_law, .ref a_now, .ref a_tried, .int m_undoMany, .int m_undoAt, .ref a_undos, .int m_seenMany, .ref a_seenHour, .ref a_seenAt, .ref a_parts, .ref a_partsThen, .int m_keptMany, .ref a_kept])), (a_law, .inl (cI, 22, .inl m_law)), (a_now, .inl (cI, 26, .inl m_now)), (a_seenHour, .inl (cI, 6, .inl m_seenHour)), (a_seenAt, .inl (cI, 6, .inl m_seenAt))] H → va_D A [(ax, .inr (8, [.int m_letterMany, .ref a_text, .int m_readAt, .ref a_told, .ref a_readLaw, .ref a_readNow, .ref a_law, .ref a_now, .ref a_tried, .int m_undoMany, .int m_undoAt, .ref a_undos, .int m_seenMany, .ref a_seenHour, .ref a_seenAt, .ref a_parts, .ref a_partsThen, .int m_keptMany, .ref a_kept])), (a_law, .inl (cI, 22, .inl m_law)), (a_now, .inl (cI, 26, .inl m_now)), (a_seenHour, .inl (cI, 6, .inl m_seenHour)), (a_seenAt, .inl (cI, 6, .inl m_seenAt))] → va_S A s.heap H locs → ∀ ls : Array Slot, lv_has ls 3 [(2, .int v2), (1, .int v1), (0, .ref ax)] → f_X8_which_L4 m_law m_seenMany m_now m_seenHour m_seenAt k4 nf4 v1 v2 = some rr → W p l e rm_X8_which s m args below meth c H locs 0 0 Q (F0 m 4 ls []) := by
    intro k4 hk4 nf4
    induction nf4 with
    | zero =>
      intro v1 v2 H locs hP hD hS ls hl hF
      rw [f_X8_which_L4_0] at hF
      cases hF
    | succ nf4 ih4 =>
      intro v1 v2 H locs hP hD hS ls hl hF
      rw [f_X8_which_L4_s] at hF
      refine lv_iload_n hx hb dX8_which_4 rfl (lv_at hl 0 rfl) ?_
      refine lv_aload_n hx hb dX8_which_5 rfl (lv_at hl 2 rfl) ?_
      refine va_get (D := D) (ci := 8) (v := .ref a_law) (C := RX8) (T := TX8) (N := 19) hx hb hts iX8 hown hK hP 0 rfl rfl 6 (by decide) k_f22 (fun _ h9 => h9) rfl dX8_which_6 ?_
      refine lv_iconst (v := (1 : Int32)) hx hb dX8_which_9 (by decide) ?_
      refine va_iald hx hb hK hP 1 0 rfl rfl (okb_in (by decide)) dX8_which_10 ?_
      refine lv_icmp_ge (tgt := 46) hx hb dX8_which_11 (by decide) (fun c3 => ?_) (fun c3 => ?_)
      · have hF := op_pos c3 hF
        exact hk4 v1 v2 _ _ hP hD hS _ (lv_sub hl [1] rfl) hF
      · have hF := op_neg c3 hF
        refine lv_iload_n hx hb dX8_which_14 rfl (lv_at hl 1 rfl) ?_
        refine lv_aload_n hx hb dX8_which_15 rfl (lv_at hl 2 rfl) ?_
        refine lv_iload_n hx hb dX8_which_16 rfl (lv_at hl 0 rfl) ?_
        refine lv_aload_n hx hb dX8_which_17 rfl (lv_at hl 2 rfl) ?_
        refine va_get (D := D) (ci := 8) (v := .ref a_now) (C := RX8) (T := TX8) (N := 19) hx hb hts iX8 hown hK hP 0 rfl rfl 7 (by decide) k_f25 (fun _ h9 => h9) rfl dX8_which_18 ?_
        refine lv_iconst (v := (4 : Int32)) hx hb dX8_which_21 (by decide) ?_
        refine lv_iload_n hx hb dX8_which_22 rfl (lv_at hl 0 rfl) ?_
        refine lv_iadd hx hb dX8_which_23 ?_
        obtain ⟨o4, hF⟩ := op_ob hF
        refine va_iald hx hb hK hP 2 0 rfl rfl (okb_in o4) dX8_which_24 ?_
        obtain ⟨r5, hb6, hF⟩ := op_bind hF
        refine xVr (As := [.int v2, .int (m_now ((4 : Int32) + v2).toNatClampNeg)]) (rest := [.int v1]) hC hP hD hS [0, 1, 2, 3, 4] (c_X8_isSeen l D cI cC cM ax a_law a_now a_seenHour a_seenAt a_text a_told a_readLaw a_readNow a_tried a_undos a_parts a_partsThen a_kept m_letterMany m_readAt m_undoMany m_undoAt m_seenMany m_keptMany m_law m_now m_seenHour m_seenAt v2 (m_now ((4 : Int32) + v2).toNatClampNeg) r5 hb6) (cwV 2 hts gX8_which_X8_isSeen rfl rfl rfl ⟨rfl, pd_X8_isSeen⟩ ⟨Nat.le_of_ble_eq_true rfl, Nat.le_of_ble_eq_true rfl⟩) rfl rfl 0 8 rfl rfl rfl rfl hl.1 rfl (Nat.le_of_ble_eq_true rfl) dX8_which_25 ⟨Nat.zero_le _, Nat.zero_le _⟩ (fun H locs hP hS => ?_)
        refine lv_if_eq (tgt := 37) hx hb dX8_which_28 (by decide) (fun c7 => ?_) (fun c7 => ?_)
        · have hF := op_pos c7 hF
          refine lv_iconst (v := (0 : Int32)) hx hb dX8_which_37 (by decide) ?_
          refine lv_ior hx hb dX8_which_38 ?_
          refine lv_istore_n (lv' := [(1, .int (v1 ||| (0 : Int32))), (2, .int v2), (0, .ref ax)]) hx hb dX8_which_39 rfl hl (by decide) rfl (fun ls hl => ?_)
          refine lv_iinc (v := (v2 + (1 : Int32))) (lv' := [(2, .int (v2 + (1 : Int32))), (1, .int (v1 ||| (0 : Int32))), (0, .ref ax)]) hx hb dX8_which_40 hl (k := 1) rfl (by first | rfl | decide) (by decide) rfl (fun ls hl => ?_)
          refine lv_goto (tgt := 4) hx hb dX8_which_43 (by decide) ?_
          exact ih4 (v1 ||| (0 : Int32)) (v2 + (1 : Int32)) _ _ hP hD hS _ (lv_sub hl [0, 1, 2] rfl) hF
        · have hF := op_neg c7 hF
          refine lv_iconst (v := (1 : Int32)) hx hb dX8_which_31 (by decide) ?_
          refine lv_iload_n hx hb dX8_which_32 rfl (lv_at hl 0 rfl) ?_
          refine lv_ishl hx hb dX8_which_33 ?_
          refine lv_goto (tgt := 38) hx hb dX8_which_34 (by decide) ?_
          refine lv_ior hx hb dX8_which_38 ?_
          refine lv_istore_n (lv' := [(1, .int (v1 ||| ((1 : Int32) <<< (v2 &&& 31)))), (2, .int v2), (0, .ref ax)]) hx hb dX8_which_39 rfl hl (by decide) rfl (fun ls hl => ?_)
          refine lv_iinc (v := (v2 + (1 : Int32))) (lv' := [(2, .int (v2 + (1 : Int32))), (1, .int (v1 ||| ((1 : Int32) <<< (v2 &&& 31)))), (0, .ref ax)]) hx hb dX8_which_40 hl (k := 1) rfl (by first | rfl | decide) (by decide) rfl (fun ls hl => ?_)
          refine lv_goto (tgt := 4) hx hb dX8_which_43 (by decide) ?_
          exact ih4 (v1 ||| ((1 : Int32) <<< (v2 &&& 31))) (v2 + (1 : Int32)) _ _ hP hD hS _ (lv_sub hl [0, 1, 2] rfl) hF
  refine hL4 _ (fun v1 v2 H locs hP hD hS ls hl hF => ?_) 20000 (0 : Int32) (0 : Int32) _ _ hP hD hS _ (lv_sub hl [0, 1, 2] rfl) hF
  refine lv_iload_n hx hb dX8_which_46 rfl (lv_at hl 0 rfl) ?_
  cases hF
  rw [hQ]
  exact xri hC hP hS dX8_which_47

def f_X8_set_L14 (m_seenMany : Int32) (m_law : (Nat → Int32)) (m_now : (Nat → Int32)) (m_seenHour : (Nat → Int32)) (m_seenAt : (Nat → Int32)) (u : Int32) (k14 : Int32 → Int32 → Option Int32) : Nat → Int32 → Int32 → Option Int32
  | 0, _, _ => none
  | nf14 + 1, v4, v5 => (if (24 : Int32) ≤ v5 then (k14 v4 v5) else (Option.bind (f_X8_isSeen m_seenMany m_law m_now m_seenHour m_seenAt u v5) fun r7 => (if r7 = 0 then (f_X8_set_L14 m_seenMany m_law m_now m_seenHour m_seenAt u k14 nf14 (v4 ||| (0 : Int32)) (v5 + (1 : Int32))) else (f_X8_set_L14 m_seenMany m_law m_now m_seenHour m_seenAt u k14 nf14 (v4 ||| ((1 : Int32) <<< (v5 &&& 31))) (v5 + (1 : Int32))))))
theorem f_X8_set_L14_0 (m_seenMany : Int32) (m_law : (Nat → Int32)) (m_now : (Nat → Int32)) (m_seenHour : (Nat → Int32)) (m_seenAt : (Nat → Int32)) (u : Int32) (k14 : Int32 → Int32 → Option Int32) (v4 : Int32) (v5 : Int32) : f_X8_set_L14 m_seenMany m_law m_now m_seenHour m_seenAt u k14 0 v4 v5 = none := rfl
theorem f_X8_set_L14_s (m_seenMany : Int32) (m_law : (Nat → Int32)) (m_now : (Nat → Int32)) (m_seenHour : (Nat → Int32)) (m_seenAt : (Nat → Int32)) (u : Int32) (k14 : Int32 → Int32 → Option Int32) (nf14 : Nat) (v4 : Int32) (v5 : Int32) : f_X8_set_L14 m_seenMany m_law m_now m_seenHour m_seenAt u k14 (nf14 + 1) v4 v5 = (if (24 : Int32) ≤ v5 then (k14 v4 v5) else (Option.bind (f_X8_isSeen m_seenMany m_law m_now m_seenHour m_seenAt u v5) fun r7 => (if r7 = 0 then (f_X8_set_L14 m_seenMany m_law m_now m_seenHour m_seenAt u k14 nf14 (v4 ||| (0 : Int32)) (v5 + (1 : Int32))) else (f_X8_set_L14 m_seenMany m_law m_now m_seenHour m_seenAt u k14 nf14 (v4 ||| ((1 : Int32) <<< (v5 &&& 31))) (v5 + (1 : Int32)))))) := rfl

def f_X8_set (m_seenMany : Int32) (m_law : (Nat → Int32)) (m_now : (Nat → Int32)) (m_seenHour : (Nat → Int32)) (m_seenAt : (Nat → Int32)) (u : Int32) : Option Int32 := (Option.bind (f_X8_isParasol m_law u) fun r1 => (if r1 = 0 then (some (-1 : Int32)) else (f_X8_set_L14 m_seenMany m_law m_now m_seenHour m_seenAt u (fun (v4 : Int32) (v5 : Int32) => (some v4)) 20000 (0 : Int32) (0 : Int32))))

def rm_X8_set : Room := { frames := 3, cells := 0, slots := 0, locals := 72 }

theorem pd_X8_set : yX8_set.cls ≠ "java/lang/invoke/MethodHandle" ∧ yX8_set.cls ≠ "java/lang/invoke/VarHandle" ∧ (parseMethodDescriptor yX8_set.desc).map (fun d => d.parameters.length) = some 1 := by decide +kernel

set_option maxHeartbeats 4000000 in
set_option maxRecDepth 100000 in
theorem c_X8_set (l : Launch) (D : va_G) (cI cC cM : ClassId) (ax a_law a_now a_seenHour a_seenAt a_text a_told a_readLaw a_readNow a_tried a_undos a_parts a_partsThen a_kept : Nat) (m_letterMany : Int32) (m_readAt : Int32) (m_undoMany : Int32) (m_undoAt : Int32) (m_seenMany : Int32) (m_keptMany : Int32) (m_law : (Nat → Int32)) (m_now : (Nat → Int32)) (m_seenHour : (Nat → Int32)) (m_seenAt : (Nat → Int32)) (u : Int32) (rr : Int32) (hF : f_X8_set m_seenMany m_law m_now m_seenHour m_seenAt u = some rr) : CI l D cI cC cM yX8_set wsX8_set rm_X8_set [.ref ax, .int u] [(ax, .inr (8, [.int m_letterMany, .ref a_text, .int m_readAt, .ref a_told, .ref a_readLaw, .ref a_readNow, .ref a_law, .ref a_now, .ref a_tried, .int m_undoMany, .int m_undoAt, .ref a_undos, .int m_seenMany, .ref a_seenHour, .ref a_seenAt, .ref a_parts, .ref a_partsThen, .int m_keptMany, .ref a_kept])), (a_law, .inl (cI, 22, .inl m_law)), (a_now, .inl (cI, 26, .inl m_now)), (a_seenHour, .inl (cI, 6, .inl m_seenHour)), (a_seenAt, .inl (cI, 6, .inl m_seenAt))] [(ax, .inr (8, [.int m_letterMany, .ref a_text, .int m_readAt, .ref a_told, .ref a_readLaw, .ref a_readNow, .ref a_law, .ref a_now, .ref a_tried, .int m_undoMany, .int m_undoAt, .ref a_undos, .int m_seenMany, .ref a_seenHour, .ref a_seenAt, .ref a_parts, .ref a_partsThen, .int m_keptMany, .ref a_kept])), (a_law, .inl (cI, 22, .inl m_law)), (a_now, .inl (cI, 26, .inl m_now)), (a_seenHour, .inl (cI, 6, .inl m_seenHour)), (a_seenAt, .inl (cI, 6, .inl m_seenAt))] rr := by
  refine CI.of (cc := cX8_set) (nL := 4) (ret := (some .int)) (by decide) rfl (Nat.le_of_ble_eq_true rfl) ?_
  intro p e s m args below meth c A hC hP hD hS ls hl
  obtain ⟨hx, hb, hml, hown, hts, hr, hlk, hG, hA⟩ := id hC
  have hown : s.vm.findClass RX8 = some m.cls := hown
  have hK := hG.1
  have hl : lv_has ls 4 [(0, .ref ax), (1, .int u)] := hl
  obtain ⟨Q, hQ⟩ : ∃ Q, Q = MQ below (QI D [(ax, .inr (8, [.int m_letterMany, .ref a_text, .int m_readAt, .ref a_told, .ref a_readLaw, .ref a_readNow, .ref a_law, .ref a_now, .ref a_tried, .int m_undoMany, .int m_undoAt, .ref a_undos, .int m_seenMany, .ref a_seenHour, .ref a_seenAt, .ref a_parts, .ref a_partsThen, .int m_keptMany, .ref a_kept])), (a_law, .inl (cI, 22, .inl m_law)), (a_now, .inl (cI, 26, .inl m_now)), (a_seenHour, .inl (cI, 6, .inl m_seenHour)), (a_seenAt, .inl (cI, 6, .inl m_seenAt))] rr A) args s 0 0 A := ⟨_, rfl⟩
  rw [← hQ]
  unfold f_X8_set at hF
  refine lv_aload_n hx hb dX8_set_0 rfl (lv_at hl 0 rfl) ?_
  refine lv_iload_n hx hb dX8_set_1 rfl (lv_at hl 1 rfl) ?_
  obtain ⟨r1, hb2, hF⟩ := op_bind hF
  refine xVr (As := [.int u]) (rest := []) hC hP hD hS [0, 1] (c_X8_isParasol l D cI cC cM ax a_law a_text a_told a_readLaw a_readNow a_now a_tried a_undos a_seenHour a_seenAt a_parts a_partsThen a_kept m_letterMany m_readAt m_undoMany m_undoAt m_seenMany m_keptMany m_law u r1 hb2) (cwV 1 hts gX8_set_X8_isParasol rfl rfl rfl ⟨rfl, pd_X8_isParasol⟩ ⟨Nat.le_of_ble_eq_true rfl, Nat.le_of_ble_eq_true rfl⟩) rfl rfl 0 8 rfl rfl rfl rfl hl.1 rfl (Nat.le_of_ble_eq_true rfl) dX8_set_2 ⟨Nat.zero_le _, Nat.zero_le _⟩ (fun H locs hP hS => ?_)
  refine lv_if_ne (tgt := 10) hx hb dX8_set_5 (by decide) (fun c3 => ?_) (fun c3 => ?_)
  · have hF := op_neg c3 hF
    refine lv_iconst (v := (0 : Int32)) hx hb dX8_set_10 (by decide) ?_
    refine lv_istore_n (lv' := [(2, .int (0 : Int32)), (0, .ref ax), (1, .int u)]) hx hb dX8_set_11 rfl hl (by decide) rfl (fun ls hl => ?_)
    refine lv_iconst (v := (0 : Int32)) hx hb dX8_set_12 (by decide) ?_
    refine lv_istore_n (lv' := [(3, .int (0 : Int32)), (2, .int (0 : Int32)), (0, .ref ax), (1, .int u)]) hx hb dX8_set_13 rfl hl (by decide) rfl (fun ls hl => ?_)
    have hL14 : ∀ (k14 : Int32 → Int32 → Option Int32), (∀ (v4 : Int32) (v5 : Int32) (H : Heap) (locs : List Loc), va_P D vwCl [(ax, .inr (8, [.int m_letterMany, .ref a_text, .int m_readAt, .ref a_told, .ref a_readLaw, .ref a_readNow, .ref a_law, .ref a_now, .ref a_tried, .int m_undoMany, .int m_undoAt, .ref a_undos, .int m_seenMany, .ref a_seenHour, .ref a_seenAt, .ref a_parts, .ref a_partsThen, .int m_keptMany, .ref a_kept])), (a_law, .inl (cI, 22, .inl m_law)), (a_now, .inl (cI, 26, .inl m_now)), (a_seenHour, .inl (cI, 6, .inl m_seenHour)), (a_seenAt, .inl (cI, 6, .inl m_seenAt))] H → va_D A [(ax, .inr (8, [.int m_letterMany, .ref a_text, .int m_readAt, .ref a_told, .ref a_readLaw, .ref a_readNow, .ref a_law, .ref a_now, .ref a_tried, .int m_undoMany, .int m_undoAt, .ref a_undos, .int m_seenMany, .ref a_seenHour, .ref a_seenAt, .ref a_parts, .ref a_partsThen, .int m_keptMany, .ref a_kept])), (a_law, .inl (cI, 22, .inl m_law)), (a_now, .inl (cI, 26, .inl m_now)), (a_seenHour, .inl (cI, 6, .inl m_seenHour)), (a_seenAt, .inl (cI, 6, .inl m_seenAt))] → va_S A s.heap H locs → ∀ ls : Array Slot, lv_has ls 4 [(2, .int v4)] → k14 v4 v5 = some rr → W p l e rm_X8_set s m args below meth c H locs 0 0 Q (F0 m 45 ls [])) → ∀ (nf14 : Nat) (v4 : Int32) (v5 : Int32) (H : Heap) (locs : List Loc), va_P D vwCl [(ax, .inr (8, [.int m_letterMany, .ref a_text, .int m_readAt, .ref a_told, .ref a_readLaw, .ref a_readNow, .ref a_law, .ref a_now, .ref a_tried, .int m_undoMany, .int m_undoAt, .ref a_undos, .int m_seenMany, .ref a_seenHour, .ref a_seenAt, .ref a_parts, .ref a_partsThen, .int m_keptMany, .ref a_kept])), (a_law, .inl (cI, 22, .inl m_law)), (a_now, .inl (cI, 26, .inl m_now)), (a_seenHour, .inl (cI, 6, .inl m_seenHour)), (a_seenAt, .inl (cI, 6, .inl m_seenAt))] H → va_D A [(ax, .inr (8, [.int m_letterMany, .ref a_text, .int m_readAt, .ref a_told, .ref a_readLaw, .ref a_readNow, .ref a_law, .ref a_now, .ref a_tried, .int m_undoMany, .int m_undoAt, .ref a_undos, .int m_seenMany, .ref a_seenHour, .ref a_seenAt, .ref a_parts, .ref a_partsThen, .int m_keptMany, .ref a_kept])), (a_law, .inl (cI, 22, .inl m_law)), (a_now, .inl (cI, 26, .inl m_now)), (a_seenHour, .inl (cI, 6, .inl m_seenHour)), (a_seenAt, .inl (cI, 6, .inl m_seenAt))] → va_S A s.heap H locs → ∀ ls : Array Slot, lv_has ls 4 [(3, .int v5), (2, .int v4), (0, .ref ax), (1, .int u)] → f_X8_set_L14 m_seenMany m_law m_now m_seenHour m_seenAt u k14 nf14 v4 v5 = some rr → W p l e rm_X8_set s m args below meth c H locs 0 0 Q (F0 m 14 ls []) := by
      intro k14 hk14 nf14
      induction nf14 with
      | zero =>
        intro v4 v5 H locs hP hD hS ls hl hF
        rw [f_X8_set_L14_0] at hF
        cases hF
      | succ nf14 ih14 =>
        intro v4 v5 H locs hP hD hS ls hl hF
        rw [f_X8_set_L14_s] at hF
        refine lv_iload_n hx hb dX8_set_14 rfl (lv_at hl 0 rfl) ?_
        refine lv_bipush (v := (24 : Int32)) hx hb dX8_set_15 (by decide) ?_
        refine lv_icmp_ge (tgt := 45) hx hb dX8_set_17 (by decide) (fun c6 => ?_) (fun c6 => ?_)
        · have hF := op_pos c6 hF
          exact hk14 v4 v5 _ _ hP hD hS _ (lv_sub hl [1] rfl) hF
        · have hF := op_neg c6 hF
          refine lv_iload_n hx hb dX8_set_20 rfl (lv_at hl 1 rfl) ?_
          refine lv_aload_n hx hb dX8_set_21 rfl (lv_at hl 2 rfl) ?_
          refine lv_iload_n hx hb dX8_set_22 rfl (lv_at hl 3 rfl) ?_
          refine lv_iload_n hx hb dX8_set_23 rfl (lv_at hl 0 rfl) ?_
          obtain ⟨r7, hb8, hF⟩ := op_bind hF
          refine xVr (As := [.int u, .int v5]) (rest := [.int v4]) hC hP hD hS [0, 1, 2, 3, 4] (c_X8_isSeen l D cI cC cM ax a_law a_now a_seenHour a_seenAt a_text a_told a_readLaw a_readNow a_tried a_undos a_parts a_partsThen a_kept m_letterMany m_readAt m_undoMany m_undoAt m_seenMany m_keptMany m_law m_now m_seenHour m_seenAt u v5 r7 hb8) (cwV 2 hts gX8_set_X8_isSeen rfl rfl rfl ⟨rfl, pd_X8_isSeen⟩ ⟨Nat.le_of_ble_eq_true rfl, Nat.le_of_ble_eq_true rfl⟩) rfl rfl 0 8 rfl rfl rfl rfl hl.1 rfl (Nat.le_of_ble_eq_true rfl) dX8_set_24 ⟨Nat.zero_le _, Nat.zero_le _⟩ (fun H locs hP hS => ?_)
          refine lv_if_eq (tgt := 36) hx hb dX8_set_27 (by decide) (fun c9 => ?_) (fun c9 => ?_)
          · have hF := op_pos c9 hF
            refine lv_iconst (v := (0 : Int32)) hx hb dX8_set_36 (by decide) ?_
            refine lv_ior hx hb dX8_set_37 ?_
            refine lv_istore_n (lv' := [(2, .int (v4 ||| (0 : Int32))), (3, .int v5), (0, .ref ax), (1, .int u)]) hx hb dX8_set_38 rfl hl (by decide) rfl (fun ls hl => ?_)
            refine lv_iinc (v := (v5 + (1 : Int32))) (lv' := [(3, .int (v5 + (1 : Int32))), (2, .int (v4 ||| (0 : Int32))), (0, .ref ax), (1, .int u)]) hx hb dX8_set_39 hl (k := 1) rfl (by first | rfl | decide) (by decide) rfl (fun ls hl => ?_)
            refine lv_goto (tgt := 14) hx hb dX8_set_42 (by decide) ?_
            exact ih14 (v4 ||| (0 : Int32)) (v5 + (1 : Int32)) _ _ hP hD hS _ (lv_sub hl [0, 1, 2, 3] rfl) hF
          · have hF := op_neg c9 hF
            refine lv_iconst (v := (1 : Int32)) hx hb dX8_set_30 (by decide) ?_
            refine lv_iload_n hx hb dX8_set_31 rfl (lv_at hl 0 rfl) ?_
            refine lv_ishl hx hb dX8_set_32 ?_
            refine lv_goto (tgt := 37) hx hb dX8_set_33 (by decide) ?_
            refine lv_ior hx hb dX8_set_37 ?_
            refine lv_istore_n (lv' := [(2, .int (v4 ||| ((1 : Int32) <<< (v5 &&& 31)))), (3, .int v5), (0, .ref ax), (1, .int u)]) hx hb dX8_set_38 rfl hl (by decide) rfl (fun ls hl => ?_)
            refine lv_iinc (v := (v5 + (1 : Int32))) (lv' := [(3, .int (v5 + (1 : Int32))), (2, .int (v4 ||| ((1 : Int32) <<< (v5 &&& 31)))), (0, .ref ax), (1, .int u)]) hx hb dX8_set_39 hl (k := 1) rfl (by first | rfl | decide) (by decide) rfl (fun ls hl => ?_)
            refine lv_goto (tgt := 14) hx hb dX8_set_42 (by decide) ?_
            exact ih14 (v4 ||| ((1 : Int32) <<< (v5 &&& 31))) (v5 + (1 : Int32)) _ _ hP hD hS _ (lv_sub hl [0, 1, 2, 3] rfl) hF
    refine hL14 _ (fun v4 v5 H locs hP hD hS ls hl hF => ?_) 20000 (0 : Int32) (0 : Int32) _ _ hP hD hS _ (lv_sub hl [0, 1, 2, 3] rfl) hF
    refine lv_iload_n hx hb dX8_set_45 rfl (lv_at hl 0 rfl) ?_
    cases hF
    rw [hQ]
    exact xri hC hP hS dX8_set_46
  · have hF := op_pos c3 hF
    refine lv_iconst (v := (-1 : Int32)) hx hb dX8_set_8 (by decide) ?_
    cases hF
    rw [hQ]
    exact xri hC hP hS dX8_set_9
