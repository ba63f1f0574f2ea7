def f_X8_isDone_L11 (m_law : (Nat → Int32)) (o : (Nat → Int32)) (w : Int32) (k11 : Int32 → Int32 → Option Int32) : Nat → Int32 → Int32 → Option Int32
  | 0, _, _ => none
  | nf11 + 1, v3, v4 => (if (m_law (2 : Int32).toNatClampNeg) ≤ v4 then (k11 v3 v4) else (if v3 = 0 then (Option.bind (f_X8_has (o (3 : Int32).toNatClampNeg) v4) fun r7 => (if r7 = 0 then (if okb ((16 : Int32) + v4) 26 = true then (if okb ((10 : Int32) + w) 22 = true then (if (o ((16 : Int32) + v4).toNatClampNeg) = (m_law ((10 : Int32) + w).toNatClampNeg) then (Option.bind (f_X8_time o v4) fun r13 => (if okb ((16 : Int32) + w) 22 = true then (if r13 = (m_law ((16 : Int32) + w).toNatClampNeg) then (f_X8_isDone_L11 m_law o w k11 nf11 (1 : Int32) (v4 + (1 : Int32))) else (f_X8_isDone_L11 m_law o w k11 nf11 (0 : Int32) (v4 + (1 : Int32)))) else none)) else (f_X8_isDone_L11 m_law o w k11 nf11 (0 : Int32) (v4 + (1 : Int32)))) else none) else none) else (f_X8_isDone_L11 m_law o w k11 nf11 (0 : Int32) (v4 + (1 : Int32))))) else (f_X8_isDone_L11 m_law o w k11 nf11 (1 : Int32) (v4 + (1 : Int32)))))
theorem f_X8_isDone_L11_0 (m_law : (Nat → Int32)) (o : (Nat → Int32)) (w : Int32) (k11 : Int32 → Int32 → Option Int32) (v3 : Int32) (v4 : Int32) : f_X8_isDone_L11 m_law o w k11 0 v3 v4 = none := rfl
theorem f_X8_isDone_L11_s (m_law : (Nat → Int32)) (o : (Nat → Int32)) (w : Int32) (k11 : Int32 → Int32 → Option Int32) (nf11 : Nat) (v3 : Int32) (v4 : Int32) : f_X8_isDone_L11 m_law o w k11 (nf11 + 1) v3 v4 = (if (m_law (2 : Int32).toNatClampNeg) ≤ v4 then (k11 v3 v4) else (if v3 = 0 then (Option.bind (f_X8_has (o (3 : Int32).toNatClampNeg) v4) fun r7 => (if r7 = 0 then (if okb ((16 : Int32) + v4) 26 = true then (if okb ((10 : Int32) + w) 22 = true then (if (o ((16 : Int32) + v4).toNatClampNeg) = (m_law ((10 : Int32) + w).toNatClampNeg) then (Option.bind (f_X8_time o v4) fun r13 => (if okb ((16 : Int32) + w) 22 = true then (if r13 = (m_law ((16 : Int32) + w).toNatClampNeg) then (f_X8_isDone_L11 m_law o w k11 nf11 (1 : Int32) (v4 + (1 : Int32))) else (f_X8_isDone_L11 m_law o w k11 nf11 (0 : Int32) (v4 + (1 : Int32)))) else none)) else (f_X8_isDone_L11 m_law o w k11 nf11 (0 : Int32) (v4 + (1 : Int32)))) else none) else none) else (f_X8_isDone_L11 m_law o w k11 nf11 (0 : Int32) (v4 + (1 : Int32))))) else (f_X8_isDone_L11 m_law o w k11 nf11 (1 : Int32) (v4 + (1 : Int32))))) := rfl

def f_X8_isDone (m_law : (Nat → Int32)) (o : (Nat → Int32)) (w : Int32) : Option Int32 := (Option.bind (f_X8_has (o (2 : Int32).toNatClampNeg) w) fun r1 => (f_X8_isDone_L11 m_law o w (fun (v3 : Int32) (v4 : Int32) => (if okz v3 = true then (some v3) else none)) 20000 r1 (0 : Int32)))

def rm_X8_isDone : Room := { frames := 2, cells := 0, slots := 0, locals := 43 }

theorem pd_X8_isDone : yX8_isDone.cls ≠ "java/lang/invoke/MethodHandle" ∧ yX8_isDone.cls ≠ "java/lang/invoke/VarHandle" ∧ (parseMethodDescriptor yX8_isDone.desc).map (fun d => d.parameters.length) = some 2 := by decide +kernel

set_option maxHeartbeats 4000000 in
set_option maxRecDepth 100000 in
theorem c_X8_isDone (l : Launch) (D : va_G) (cI cC cM : ClassId) (ax a_law a_of a_text a_told a_readLaw a_readNow a_now a_tried a_undos a_seenHour a_seenAt a_parts a_partsThen a_kept : Nat) (m_letterMany : Int32) (m_readAt : Int32) (m_undoMany : Int32) (m_undoAt : Int32) (m_seenMany : Int32) (m_keptMany : Int32) (m_law : (Nat → Int32)) (o : (Nat → Int32)) (w : Int32) (rr : Int32) (hF : f_X8_isDone m_law o w = some rr) : CI l D cI cC cM yX8_isDone wsX8_isDone rm_X8_isDone [.ref ax, .ref a_of, .int w] [(ax, .inr (8, [.int m_letterMany, .ref a_text, .int m_readAt, .ref a_told, .ref a_readLaw, .ref a_readNow, .ref a_law, .ref a_now, .ref a_tried, .int m_undoMany, .int m_undoAt, .ref a_undos, .int m_seenMany, .ref a_seenHour, .ref a_seenAt, .ref a_parts, .ref a_partsThen, .int m_keptMany, .ref a_kept])), (a_law, .inl (cI, 22, .inl m_law)), (a_of, .inl (cI, 26, .inl o))] [(ax, .inr (8, [.int m_letterMany, .ref a_text, .int m_readAt, .ref a_told, .ref a_readLaw, .ref a_readNow, .ref a_law, .ref a_now, .ref a_tried, .int m_undoMany, .int m_undoAt, .ref a_undos, .int m_seenMany, .ref a_seenHour, .ref a_seenAt, .ref a_parts, .ref a_partsThen, .int m_keptMany, .ref a_kept])), (a_law, .inl (cI, 22, .inl m_law)), (a_of, .inl (cI, 26, .inl o))] rr := by
  refine CI.of (cc := cX8_isDone) (nL := 5) (ret := (some .boolean)) (by decide) rfl (Nat.le_of_ble_eq_true rfl) ?_
  intro p e s m args below meth c A hC hP hD hS ls hl
  obtain ⟨hx, hb, hml, hown, hts, hr, hlk, hG, hA⟩ := id hC
  have hown : s.vm.findClass RX8 = some m.cls := hown
  have hK := hG.1
  have hl : lv_has ls 5 [(0, .ref ax), (1, .ref a_of), (2, .int w)] := hl
  have k_f22 := hts (.fieldLink RX8 22 "ParasolHoursModel" "law" "[I") (List.mem_of_getElem? (i := 1) rfl)
  have iX8 : ∀ w ∈ wsX80, w ∈ wsX8_isDone := by decide +kernel
  obtain ⟨Q, hQ⟩ : ∃ Q, Q = MQ below (QI D [(ax, .inr (8, [.int m_letterMany, .ref a_text, .int m_readAt, .ref a_told, .ref a_readLaw, .ref a_readNow, .ref a_law, .ref a_now, .ref a_tried, .int m_undoMany, .int m_undoAt, .ref a_undos, .int m_seenMany, .ref a_seenHour, .ref a_seenAt, .ref a_parts, .ref a_partsThen, .int m_keptMany, .ref a_kept])), (a_law, .inl (cI, 22, .inl m_law)), (a_of, .inl (cI, 26, .inl o))] rr A) args s 0 0 A := ⟨_, rfl⟩
  rw [← hQ]
  unfold f_X8_isDone at hF
  refine lv_aload_n hx hb dX8_isDone_0 rfl (lv_at hl 1 rfl) ?_
  refine lv_iconst (v := (2 : Int32)) hx hb dX8_isDone_1 (by decide) ?_
  refine va_iald hx hb hK hP 2 0 rfl rfl (okb_in (by decide)) dX8_isDone_2 ?_
  refine lv_iload_n hx hb dX8_isDone_3 rfl (lv_at hl 2 rfl) ?_
  obtain ⟨r1, hb2, hF⟩ := op_bind hF
  refine xSr (As := [.int (o (2 : Int32).toNatClampNeg), .int w]) (rest := []) hC hP hD hS [] (c_X8_has l D cI cC cM (o (2 : Int32).toNatClampNeg) w r1 hb2) (va_cwS 2 hts gX8_isDone_X8_has rfl rfl rfl pd_X8_has ⟨Nat.le_of_ble_eq_true rfl, Nat.le_of_ble_eq_true rfl⟩) rfl rfl rfl hl.1 rfl (Nat.le_of_ble_eq_true rfl) dX8_isDone_4 ⟨Nat.zero_le _, Nat.zero_le _⟩ (fun H locs hP hS => ?_)
  refine lv_istore_n (lv' := [(3, .int r1), (0, .ref ax), (1, .ref a_of), (2, .int w)]) hx hb dX8_isDone_7 rfl hl (by decide) rfl (fun ls hl => ?_)
  refine lv_iconst (v := (0 : Int32)) hx hb dX8_isDone_8 (by decide) ?_
  refine lv_istore (lv' := [(4, .int (0 : Int32)), (3, .int r1), (0, .ref ax), (1, .ref a_of), (2, .int w)]) hx hb dX8_isDone_9 hl (by decide) rfl (fun ls hl => ?_)
  have hL11 : ∀ (k11 : Int32 → Int32 → Option Int32), (∀ (v3 : Int32) (v4 : Int32) (H : Heap) (locs : List Loc), va_P D vwCl [(ax, .inr (8, [.int m_letterMany, .ref a_text, .int m_readAt, .ref a_told, .ref a_readLaw, .ref a_readNow, .ref a_law, .ref a_now, .ref a_tried, .int m_undoMany, .int m_undoAt, .ref a_undos, .int m_seenMany, .ref a_seenHour, .ref a_seenAt, .ref a_parts, .ref a_partsThen, .int m_keptMany, .ref a_kept])), (a_law, .inl (cI, 22, .inl m_law)), (a_of, .inl (cI, 26, .inl o))] H → va_D A [(ax, .inr (8, [.int m_letterMany, .ref a_text, .int m_readAt, .ref a_told, .ref a_readLaw, .ref a_readNow, .ref a_law, .ref a_now, .ref a_tried, .int m_undoMany, .int m_undoAt, .ref a_undos, .int m_seenMany, .ref a_seenHour, .ref a_seenAt, .ref a_parts, .ref a_partsThen, .int m_keptMany, .ref a_kept])), (a_law, .inl (cI, 22, .inl m_law)), (a_of, .inl (cI, 26, .inl o))] → va_S A s.heap H locs → ∀ ls : Array Slot, lv_has ls 5 [(3, .int v3)] → k11 v3 v4 = some rr → W p l e rm_X8_isDone s m args below meth c H locs 0 0 Q (F0 m 86 ls [])) → ∀ (nf11 : Nat) (v3 : Int32) (v4 : Int32) (H : Heap) (locs : List Loc), va_P D vwCl [(ax, .inr (8, [.int m_letterMany, .ref a_text, .int m_readAt, .ref a_told, .ref a_readLaw, .ref a_readNow, .ref a_law, .ref a_now, .ref a_tried, .int m_undoMany, .int m_undoAt, .ref a_undos, .int m_seenMany, .ref a_seenHour, .ref a_seenAt, .ref a_parts, .ref a_partsThen, .int m_keptMany, .ref a_kept])), (a_law, .inl (cI, 22, .inl m_law)), (a_of, .inl (cI, 26, .inl o))] H → va_D A [(ax, .inr (8, [.int m_letterMany, .ref a_text, .int m_readAt, .ref a_told, .ref a_readLaw, .ref a_readNow, .ref a_law, .ref a_now, .ref a_tried, .int m_undoMany, .int m_undoAt, .ref a_undos, .int m_seenMany, .ref a_seenHour, .ref a_seenAt, .ref a_parts, .ref a_partsThen, .int m_keptMany, .ref a_kept])), (a_law, .inl (cI, 22, .inl m_law)), (a_of, .inl (cI, 26, .inl o))] → va_S A s.heap H locs → ∀ ls : Array Slot, lv_has ls 5 [(4, .int v4), (3, .int v3), (0, .ref ax), (1, .ref a_of), (2, .int w)] → f_X8_isDone_L11 m_law o w k11 nf11 v3 v4 = some rr → W p l e rm_X8_isDone s m args below meth c H locs 0 0 Q (F0 m 11 ls []) := by
    intro k11 hk11 nf11
    induction nf11 with
    | zero =>
      intro v3 v4 H locs hP hD hS ls hl hF
      rw [f_X8_isDone_L11_0] at hF
      cases hF
    | succ nf11 ih11 =>
      intro v3 v4 H locs hP hD hS ls hl hF
      rw [f_X8_isDone_L11_s] at hF
      refine lv_iload hx hb dX8_isDone_11 (lv_at hl 0 rfl) ?_
      refine lv_aload_n hx hb dX8_isDone_13 rfl (lv_at hl 2 rfl) ?_
      refine va_get (D := D) (ci := 8) (v := .ref a_law) (C := RX8) (T := TX8) (N := 19) hx hb hts iX8 hown hK hP 0 rfl rfl 6 (by decide) k_f22 (fun _ h9 => h9) rfl dX8_isDone_14 ?_
      refine lv_iconst (v := (2 : Int32)) hx hb dX8_isDone_17 (by decide) ?_
      refine va_iald hx hb hK hP 1 0 rfl rfl (okb_in (by decide)) dX8_isDone_18 ?_
      refine lv_icmp_ge (tgt := 86) hx hb dX8_isDone_19 (by decide) (fun c5 => ?_) (fun c5 => ?_)
      · have hF := op_pos c5 hF
        exact hk11 v3 v4 _ _ hP hD hS _ (lv_sub hl [1] rfl) hF
      · have hF := op_neg c5 hF
        refine lv_iload_n hx hb dX8_isDone_22 rfl (lv_at hl 1 rfl) ?_
        refine lv_if_ne (tgt := 74) hx hb dX8_isDone_23 (by decide) (fun c6 => ?_) (fun c6 => ?_)
        · have hF := op_neg c6 hF
          refine lv_iconst (v := (1 : Int32)) hx hb dX8_isDone_74 (by decide) ?_
          refine lv_goto (tgt := 79) hx hb dX8_isDone_75 (by decide) ?_
          refine lv_istore_n (lv' := [(3, .int (1 : Int32)), (4, .int v4), (0, .ref ax), (1, .ref a_of), (2, .int w)]) hx hb dX8_isDone_79 rfl hl (by decide) rfl (fun ls hl => ?_)
          refine lv_iinc (v := (v4 + (1 : Int32))) (lv' := [(4, .int (v4 + (1 : Int32))), (3, .int (1 : Int32)), (0, .ref ax), (1, .ref a_of), (2, .int w)]) hx hb dX8_isDone_80 hl (k := 1) rfl (by first | rfl | decide) (by decide) rfl (fun ls hl => ?_)
          refine lv_goto (tgt := 11) hx hb dX8_isDone_83 (by decide) ?_
          exact ih11 (1 : Int32) (v4 + (1 : Int32)) _ _ hP hD hS _ (lv_sub hl [0, 1, 2, 3, 4] rfl) hF
        · have hF := op_pos c6 hF
          refine lv_aload_n hx hb dX8_isDone_26 rfl (lv_at hl 3 rfl) ?_
          refine lv_iconst (v := (3 : Int32)) hx hb dX8_isDone_27 (by decide) ?_
          refine va_iald hx hb hK hP 2 0 rfl rfl (okb_in (by decide)) dX8_isDone_28 ?_
          refine lv_iload hx hb dX8_isDone_29 (lv_at hl 0 rfl) ?_
          obtain ⟨r7, hb8, hF⟩ := op_bind hF
          refine xSr (As := [.int (o (3 : Int32).toNatClampNeg), .int v4]) (rest := []) hC hP hD hS [] (c_X8_has l D cI cC cM (o (3 : Int32).toNatClampNeg) v4 r7 hb8) (va_cwS 2 hts gX8_isDone_X8_has rfl rfl rfl pd_X8_has ⟨Nat.le_of_ble_eq_true rfl, Nat.le_of_ble_eq_true rfl⟩) rfl rfl rfl hl.1 rfl (Nat.le_of_ble_eq_true rfl) dX8_isDone_31 ⟨Nat.zero_le _, Nat.zero_le _⟩ (fun H locs hP hS => ?_)
          refine lv_if_ne (tgt := 78) hx hb dX8_isDone_34 (by decide) (fun c9 => ?_) (fun c9 => ?_)
          · have hF := op_neg c9 hF
            refine lv_iconst (v := (0 : Int32)) hx hb dX8_isDone_78 (by decide) ?_
            refine lv_istore_n (lv' := [(3, .int (0 : Int32)), (4, .int v4), (0, .ref ax), (1, .ref a_of), (2, .int w)]) hx hb dX8_isDone_79 rfl hl (by decide) rfl (fun ls hl => ?_)
            refine lv_iinc (v := (v4 + (1 : Int32))) (lv' := [(4, .int (v4 + (1 : Int32))), (3, .int (0 : Int32)), (0, .ref ax), (1, .ref a_of), (2, .int w)]) hx hb dX8_isDone_80 hl (k := 1) rfl (by first | rfl | decide) (by decide) rfl (fun ls hl => ?_)
            refine lv_goto (tgt := 11) hx hb dX8_isDone_83 (by decide) ?_
            exact ih11 (0 : Int32) (v4 + (1 : Int32)) _ _ hP hD hS _ (lv_sub hl [0, 1, 2, 3, 4] rfl) hF
          · have hF := op_pos c9 hF
            refine lv_aload_n hx hb dX8_isDone_37 rfl (lv_at hl 3 rfl) ?_
            refine lv_bipush (v := (16 : Int32)) hx hb dX8_isDone_38 (by decide) ?_
            refine lv_iload hx hb dX8_isDone_40 (lv_at hl 0 rfl) ?_
            refine lv_iadd hx hb dX8_isDone_42 ?_
            obtain ⟨o10, hF⟩ := op_ob hF
            refine va_iald hx hb hK hP 2 0 rfl rfl (okb_in o10) dX8_isDone_43 ?_
            refine lv_aload_n hx hb dX8_isDone_44 rfl (lv_at hl 2 rfl) ?_
            refine va_get (D := D) (ci := 8) (v := .ref a_law) (C := RX8) (T := TX8) (N := 19) hx hb hts iX8 hown hK hP 0 rfl rfl 6 (by decide) k_f22 (fun _ h9 => h9) rfl dX8_isDone_45 ?_
            refine lv_bipush (v := (10 : Int32)) hx hb dX8_isDone_48 (by decide) ?_
            refine lv_iload_n hx hb dX8_isDone_50 rfl (lv_at hl 4 rfl) ?_
            refine lv_iadd hx hb dX8_isDone_51 ?_
            obtain ⟨o11, hF⟩ := op_ob hF
            refine va_iald hx hb hK hP 1 0 rfl rfl (okb_in o11) dX8_isDone_52 ?_
            refine lv_icmp_ne (tgt := 78) hx hb dX8_isDone_53 (by decide) (fun c12 => ?_) (fun c12 => ?_)
            · have hF := op_neg c12 hF
              refine lv_iconst (v := (0 : Int32)) hx hb dX8_isDone_78 (by decide) ?_
              refine lv_istore_n (lv' := [(3, .int (0 : Int32)), (4, .int v4), (0, .ref ax), (1, .ref a_of), (2, .int w)]) hx hb dX8_isDone_79 rfl hl (by decide) rfl (fun ls hl => ?_)
              refine lv_iinc (v := (v4 + (1 : Int32))) (lv' := [(4, .int (v4 + (1 : Int32))), (3, .int (0 : Int32)), (0, .ref ax), (1, .ref a_of), (2, .int w)]) hx hb dX8_isDone_80 hl (k := 1) rfl (by first | rfl | decide) (by decide) rfl (fun ls hl => ?_)
              refine lv_goto (tgt := 11) hx hb dX8_isDone_83 (by decide) ?_
              exact ih11 (0 : Int32) (v4 + (1 : Int32)) _ _ hP hD hS _ (lv_sub hl [0, 1, 2, 3, 4] rfl) hF
            · have hF := op_pos c12 hF
              refine lv_aload_n hx hb dX8_isDone_56 rfl (lv_at hl 3 rfl) ?_
              refine lv_iload hx hb dX8_isDone_57 (lv_at hl 0 rfl) ?_
              obtain ⟨r13, hb14, hF⟩ := op_bind hF
              refine xSr (As := [.ref a_of, .int v4]) (rest := []) hC hP hD hS [2] (c_X8_time l D cI cC cM a_of o v4 r13 hb14) (va_cwS 2 hts gX8_isDone_X8_time rfl rfl rfl pd_X8_time ⟨Nat.le_of_ble_eq_true rfl, Nat.le_of_ble_eq_true rfl⟩) rfl rfl rfl hl.1 rfl (Nat.le_of_ble_eq_true rfl) dX8_isDone_59 ⟨Nat.zero_le _, Nat.zero_le _⟩ (fun H locs hP hS => ?_)
              refine lv_aload_n hx hb dX8_isDone_62 rfl (lv_at hl 2 rfl) ?_
              refine va_get (D := D) (ci := 8) (v := .ref a_law) (C := RX8) (T := TX8) (N := 19) hx hb hts iX8 hown hK hP 0 rfl rfl 6 (by decide) k_f22 (fun _ h9 => h9) rfl dX8_isDone_63 ?_
              refine lv_bipush (v := (16 : Int32)) hx hb dX8_isDone_66 (by decide) ?_
              refine lv_iload_n hx hb dX8_isDone_68 rfl (lv_at hl 4 rfl) ?_
              refine lv_iadd hx hb dX8_isDone_69 ?_
              obtain ⟨o15, hF⟩ := op_ob hF
              refine va_iald hx hb hK hP 1 0 rfl rfl (okb_in o15) dX8_isDone_70 ?_
              refine lv_icmp_ne (tgt := 78) hx hb dX8_isDone_71 (by decide) (fun c16 => ?_) (fun c16 => ?_)
              · have hF := op_neg c16 hF
                refine lv_iconst (v := (0 : Int32)) hx hb dX8_isDone_78 (by decide) ?_
                refine lv_istore_n (lv' := [(3, .int (0 : Int32)), (4, .int v4), (0, .ref ax), (1, .ref a_of), (2, .int w)]) hx hb dX8_isDone_79 rfl hl (by decide) rfl (fun ls hl => ?_)
                refine lv_iinc (v := (v4 + (1 : Int32))) (lv' := [(4, .int (v4 + (1 : Int32))), (3, .int (0 : Int32)), (0, .ref ax), (1, .ref a_of), (2, .int w)]) hx hb dX8_isDone_80 hl (k := 1) rfl (by first | rfl | decide) (by decide) rfl (fun ls hl => ?_)
                refine lv_goto (tgt := 11) hx hb dX8_isDone_83 (by decide) ?_
                exact ih11 (0 : Int32) (v4 + (1 : Int32)) _ _ hP hD hS _ (lv_sub hl [0, 1, 2, 3, 4] rfl) hF
              · have hF := op_pos c16 hF
                refine lv_iconst (v := (1 : Int32)) hx hb dX8_isDone_74 (by decide) ?_
                refine lv_goto (tgt := 79) hx hb dX8_isDone_75 (by decide) ?_
                refine lv_istore_n (lv' := [(3, .int (1 : Int32)), (4, .int v4), (0, .ref ax), (1, .ref a_of), (2, .int w)]) hx hb dX8_isDone_79 rfl hl (by decide) rfl (fun ls hl => ?_)
                refine lv_iinc (v := (v4 + (1 : Int32))) (lv' := [(4, .int (v4 + (1 : Int32))), (3, .int (1 : Int32)), (0, .ref ax), (1, .ref a_of), (2, .int w)]) hx hb dX8_isDone_80 hl (k := 1) rfl (by first | rfl | decide) (by decide) rfl (fun ls hl => ?_)
                refine lv_goto (tgt := 11) hx hb dX8_isDone_83 (by decide) ?_
                exact ih11 (1 : Int32) (v4 + (1 : Int32)) _ _ hP hD hS _ (lv_sub hl [0, 1, 2, 3, 4] rfl) hF
  refine hL11 _ (fun v3 v4 H locs hP hD hS ls hl hF => ?_) 20000 r1 (0 : Int32) _ _ hP hD hS _ (lv_sub hl [0, 1, 2, 3, 4] rfl) hF
  refine lv_iload_n hx hb dX8_isDone_86 rfl (lv_at hl 0 rfl) ?_
  obtain ⟨z17, hF⟩ := op_ob hF
  cases hF
  rw [hQ]
  exact xrz hC (okz_n z17) hP hS dX8_isDone_87

def f_X8_meetings_L17 (v2 : Int32) (m_law : (Nat → Int32)) (o : (Nat → Int32)) (k17 : Int32 → Int32 → Option Int32) : Nat → Int32 → Int32 → Option Int32
  | 0, _, _ => none
  | nf17 + 1, v4, v5 => (if v2 ≤ v5 then (k17 v4 v5) else (Option.bind (f_X8_under m_law o v2) fun r7 => (if r7 = 0 then (f_X8_meetings_L17 v2 m_law o k17 nf17 (v4 + (0 : Int32)) (v5 + (1 : Int32))) else (Option.bind (f_X8_under m_law o v5) fun r10 => (if r10 = 0 then (f_X8_meetings_L17 v2 m_law o k17 nf17 (v4 + (0 : Int32)) (v5 + (1 : Int32))) else (Option.bind (f_X8_squareOf m_law o v2) fun r13 => (Option.bind (f_X8_squareOf m_law o v5) fun r15 => (if r13 = r15 then (if okb ((4 : Int32) + v2) 26 = true then (if okb ((4 : Int32) + v5) 26 = true then (if (o ((4 : Int32) + v2).toNatClampNeg) = (o ((4 : Int32) + v5).toNatClampNeg) then (f_X8_meetings_L17 v2 m_law o k17 nf17 (v4 + (1 : Int32)) (v5 + (1 : Int32))) else (f_X8_meetings_L17 v2 m_law o k17 nf17 (v4 + (0 : Int32)) (v5 + (1 : Int32)))) else none) else none) else (f_X8_meetings_L17 v2 m_law o k17 nf17 (v4 + (0 : Int32)) (v5 + (1 : Int32)))))))))))
theorem f_X8_meetings_L17_0 (v2 : Int32) (m_law : (Nat → Int32)) (o : (Nat → Int32)) (k17 : Int32 → Int32 → Option Int32) (v4 : Int32) (v5 : Int32) : f_X8_meetings_L17 v2 m_law o k17 0 v4 v5 = none := rfl
theorem f_X8_meetings_L17_s (v2 : Int32) (m_law : (Nat → Int32)) (o : (Nat → Int32)) (k17 : Int32 → Int32 → Option Int32) (nf17 : Nat) (v4 : Int32) (v5 : Int32) : f_X8_meetings_L17 v2 m_law o k17 (nf17 + 1) v4 v5 = (if v2 ≤ v5 then (k17 v4 v5) else (Option.bind (f_X8_under m_law o v2) fun r7 => (if r7 = 0 then (f_X8_meetings_L17 v2 m_law o k17 nf17 (v4 + (0 : Int32)) (v5 + (1 : Int32))) else (Option.bind (f_X8_under m_law o v5) fun r10 => (if r10 = 0 then (f_X8_meetings_L17 v2 m_law o k17 nf17 (v4 + (0 : Int32)) (v5 + (1 : Int32))) else (Option.bind (f_X8_squareOf m_law o v2) fun r13 => (Option.bind (f_X8_squareOf m_law o v5) fun r15 => (if r13 = r15 then (if okb ((4 : Int32) + v2) 26 = true then (if okb ((4 : Int32) + v5) 26 = true then (if (o ((4 : Int32) + v2).toNatClampNeg) = (o ((4 : Int32) + v5).toNatClampNeg) then (f_X8_meetings_L17 v2 m_law o k17 nf17 (v4 + (1 : Int32)) (v5 + (1 : Int32))) else (f_X8_meetings_L17 v2 m_law o k17 nf17 (v4 + (0 : Int32)) (v5 + (1 : Int32)))) else none) else none) else (f_X8_meetings_L17 v2 m_law o k17 nf17 (v4 + (0 : Int32)) (v5 + (1 : Int32))))))))))) := rfl

def f_X8_meetings_L4 (m_law : (Nat → Int32)) (o : (Nat → Int32)) (k4 : Int32 → Int32 → Option Int32) : Nat → Int32 → Int32 → Option Int32
  | 0, _, _ => none
  | nf4 + 1, v1, v2 => (if (m_law (1 : Int32).toNatClampNeg) ≤ v2 then (k4 v1 v2) else (f_X8_meetings_L17 v2 m_law o (fun (v4 : Int32) (v5 : Int32) => (f_X8_meetings_L4 m_law o k4 nf4 v4 (v2 + (1 : Int32)))) 20000 v1 (0 : Int32)))
theorem f_X8_meetings_L4_0 (m_law : (Nat → Int32)) (o : (Nat → Int32)) (k4 : Int32 → Int32 → Option Int32) (v1 : Int32) (v2 : Int32) : f_X8_meetings_L4 m_law o k4 0 v1 v2 = none := rfl
theorem f_X8_meetings_L4_s (m_law : (Nat → Int32)) (o : (Nat → Int32)) (k4 : Int32 → Int32 → Option Int32) (nf4 : Nat) (v1 : Int32) (v2 : Int32) : f_X8_meetings_L4 m_law o k4 (nf4 + 1) v1 v2 = (if (m_law (1 : Int32).toNatClampNeg) ≤ v2 then (k4 v1 v2) else (f_X8_meetings_L17 v2 m_law o (fun (v4 : Int32) (v5 : Int32) => (f_X8_meetings_L4 m_law o k4 nf4 v4 (v2 + (1 : Int32)))) 20000 v1 (0 : Int32))) := rfl

def f_X8_meetings (m_law : (Nat → Int32)) (o : (Nat → Int32)) : Option Int32 := (f_X8_meetings_L4 m_law o (fun (v1 : Int32) (v2 : Int32) => (some v1)) 20000 (0 : Int32) (0 : Int32))

def rm_X8_meetings : Room := { frames := 1, cells := 0, slots := 0, locals := 24 }

theorem pd_X8_meetings : yX8_meetings.cls ≠ "java/lang/invoke/MethodHandle" ∧ yX8_meetings.cls ≠ "java/lang/invoke/VarHandle" ∧ (parseMethodDescriptor yX8_meetings.desc).map (fun d => d.parameters.length) = some 1 := by decide +kernel

set_option maxHeartbeats 4000000 in
set_option maxRecDepth 100000 in
theorem c_X8_meetings (l : Launch) (D : va_G) (cI cC cM : ClassId) (ax a_law a_of a_text a_told a_readLaw a_readNow a_now a_tried a_undos a_seenHour a_seenAt a_parts a_partsThen a_kept : Nat) (m_letterMany : Int32) (m_readAt : Int32) (m_undoMany : Int32) (m_undoAt : Int32) (m_seenMany : Int32) (m_keptMany : Int32) (m_law : (Nat → Int32)) (o : (Nat → Int32)) (rr : Int32) (hF : f_X8_meetings m_law o = some rr) : CI l D cI cC cM yX8_meetings wsX8_meetings rm_X8_meetings [.ref ax, .ref a_of] [(ax, .inr (8, [.int m_letterMany, .ref a_text, .int m_readAt, .ref a_told, .ref a_readLaw, .ref a_readNow, .ref a_law, .ref a_now, .ref a_tried, .int m_undoMany, .int m_undoAt, .ref a_undos, .int m_seenMany, .ref a_seenHour, .ref a_seenAt, .ref a_parts, .ref a_partsThen, .int m_keptMany, .ref a_kept])), (a_law, .inl (cI, 22, .inl m_law)), (a_of, .inl (cI, 26, .inl o))] [(ax, .inr (8, [.int m_letterMany, .ref a_text, .int m_readAt, .ref a_told, .ref a_readLaw, .ref a_readNow, .ref a_law, .ref a_now, .ref a_tried, .int m_undoMany, .int m_undoAt, .ref a_undos, .int m_seenMany, .ref a_seenHour, .ref a_seenAt, .ref a_parts, .ref a_partsThen, .int m_keptMany, .ref a_kept])), (a_law, .inl (cI, 22, .inl m_law)), (a_of, .inl (cI, 26, .inl o))] rr := by
  refine CI.of (cc := cX8_meetings) (nL := 6) (ret := (some .int)) (by decide) rfl (Nat.le_of_ble_eq_true rfl) ?_
  intro p e s m args below meth c A hC hP hD hS ls hl
  obtain ⟨hx, hb, hml, hown, hts, hr, hlk, hG, hA⟩ := id hC
  have hown : s.vm.findClass RX8 = some m.cls := hown
  have hK := hG.1
  have hl : lv_has ls 6 [(0, .ref ax), (1, .ref a_of)] := hl
  have k_f22 := hts (.fieldLink RX8 22 "ParasolHoursModel" "law" "[I") (List.mem_of_getElem? (i := 1) rfl)
  have iX8 : ∀ w ∈ wsX80, w ∈ wsX8_meetings := by decide +kernel
  obtain ⟨Q, hQ⟩ : ∃ Q, Q = MQ below (QI D [(ax, .inr (8, [.int m_letterMany, .ref a_text, .int m_readAt, .ref a_told, .ref a_readLaw, .ref a_readNow, .ref a_law, .ref a_now, .ref a_tried, .int m_undoMany, .int m_undoAt, .ref a_undos, .int m_seenMany, .ref a_seenHour, .ref a_seenAt, .ref a_parts, .ref a_partsThen, .int m_keptMany, .ref a_kept])), (a_law, .inl (cI, 22, .inl m_law)), (a_of, .inl (cI, 26, .inl o))] rr A) args s 0 0 A := ⟨_, rfl⟩
  rw [← hQ]
  unfold f_X8_meetings at hF
  refine lv_iconst (v := (0 : Int32)) hx hb dX8_meetings_0 (by decide) ?_
  refine lv_istore_n (lv' := [(2, .int (0 : Int32)), (0, .ref ax), (1, .ref a_of)]) hx hb dX8_meetings_1 rfl hl (by decide) rfl (fun ls hl => ?_)
  refine lv_iconst (v := (0 : Int32)) hx hb dX8_meetings_2 (by decide) ?_
  refine lv_istore_n (lv' := [(3, .int (0 : Int32)), (2, .int (0 : Int32)), (0, .ref ax), (1, .ref a_of)]) hx hb dX8_meetings_3 rfl hl (by decide) rfl (fun ls hl => ?_)
  have hL4 : ∀ (k4 : Int32 → Int32 → Option Int32), (∀ (v1 : Int32) (v2 : Int32) (H : Heap) (locs : List Loc), va_P D vwCl [(ax, .inr (8, [.int m_letterMany, .ref a_text, .int m_readAt, .ref a_told, .ref a_readLaw, .ref a_readNow, .ref a_law, .ref a_now, .ref a_tried, .int m_undoMany, .int m_undoAt, .ref a_undos, .int m_seenMany, .ref a_seenHour, .ref a_seenAt, .ref a_parts, .ref a_partsThen, .int m_keptMany, .ref a_kept])), (a_law, .inl (cI, 22, .inl m_law)), (a_of, .inl (cI, 26, .inl o))] H → va_D A [(ax, .inr (8, [.int m_letterMany, .ref a_text, .int m_readAt, .ref a_told, .ref a_readLaw, .ref a_readNow, .ref a_law, .ref a_now, .ref a_tried, .int m_undoMany, .int m_undoAt, .ref a_undos, .int m_seenMany, .ref a_seenHour, .ref a_seenAt, .ref a_parts, .ref a_partsThen, .int m_keptMany, .ref a_kept])), (a_law, .inl (cI, 22, .inl m_law)), (a_of, .inl (cI, 26, .inl o))] → va_S A s.heap H locs → ∀ ls : Array Slot, lv_has ls 6 [(2, .int v1)] → k4 v1 v2 = some rr → W p l e rm_X8_meetings s m args below meth c H locs 0 0 Q (F0 m 104 ls [])) → ∀ (nf4 : Nat) (v1 : Int32) (v2 : Int32) (H : Heap) (locs : List Loc), va_P D vwCl [(ax, .inr (8, [.int m_letterMany, .ref a_text, .int m_readAt, .ref a_told, .ref a_readLaw, .ref a_readNow, .ref a_law, .ref a_now, .ref a_tried, .int m_undoMany, .int m_undoAt, .ref a_undos, .int m_seenMany, .ref a_seenHour, .ref a_seenAt, .ref a_parts, .ref a_partsThen, .int m_keptMany, .ref a_kept])), (a_law, .inl (cI, 22, .inl m_law)), (a_of, .inl (cI, 26, .inl o))] H → va_D A [(ax, .inr (8, [.int m_letterMany, .ref a_text, .int m_readAt, .ref a_told, .ref a_readLaw, .ref a_readNow, .ref a_law, .ref a_now, .ref a_tried, .int m_undoMany, .int m_undoAt, .ref a_undos, .int m_seenMany, .ref a_seenHour, .ref a_seenAt, .ref a_parts, .ref a_partsThen, .int m_keptMany, .ref a_kept])), (a_law, .inl (cI, 22, .inl m_law)), (a_of, .inl (cI, 26, .inl o))] → va_S A s.heap H locs → ∀ ls : Array Slot, lv_has ls 6 [(3, .int v2), (2, .int v1), (0, .ref ax), (1, .ref a_of)] → f_X8_meetings_L4 m_law o k4 nf4 v1 v2 = some rr → W p l e rm_X8_meetings s m args below meth c H locs 0 0 Q (F0 m 4 ls []) := by
    intro k4 hk4 nf4
    induction nf4 with
    | zero =>
      intro v1 v2 H locs hP hD hS ls hl hF
      rw [f_X8_meetings_L4_0] at hF
      cases hF
    | succ nf4 ih4 =>
      intro v1 v2 H locs hP hD hS ls hl hF
      rw [f_X8_meetings_L4_s] at hF
      refine lv_iload_n hx hb dX8_meetings_4 rfl (lv_at hl 0 rfl) ?_
      refine lv_aload_n hx hb dX8_meetings_5 rfl (lv_at hl 2 rfl) ?_
      refine va_get (D := D) (ci := 8) (v := .ref a_law) (C := RX8) (T := TX8) (N := 19) hx hb hts iX8 hown hK hP 0 rfl rfl 6 (by decide) k_f22 (fun _ h9 => h9) rfl dX8_meetings_6 ?_
      refine lv_iconst (v := (1 : Int32)) hx hb dX8_meetings_9 (by decide) ?_
      refine va_iald hx hb hK hP 1 0 rfl rfl (okb_in (by decide)) dX8_meetings_10 ?_
      refine lv_icmp_ge (tgt := 104) hx hb dX8_meetings_11 (by decide) (fun c3 => ?_) (fun c3 => ?_)
      · have hF := op_pos c3 hF
        exact hk4 v1 v2 _ _ hP hD hS _ (lv_sub hl [1] rfl) hF
      · have hF := op_neg c3 hF
        refine lv_iconst (v := (0 : Int32)) hx hb dX8_meetings_14 (by decide) ?_
        refine lv_istore (lv' := [(4, .int (0 : Int32)), (3, .int v2), (2, .int v1), (0, .ref ax), (1, .ref a_of)]) hx hb dX8_meetings_15 hl (by decide) rfl (fun ls hl => ?_)
        have hL17 : ∀ (k17 : Int32 → Int32 → Option Int32), (∀ (v4 : Int32) (v5 : Int32) (H : Heap) (locs : List Loc), va_P D vwCl [(ax, .inr (8, [.int m_letterMany, .ref a_text, .int m_readAt, .ref a_told, .ref a_readLaw, .ref a_readNow, .ref a_law, .ref a_now, .ref a_tried, .int m_undoMany, .int m_undoAt, .ref a_undos, .int m_seenMany, .ref a_seenHour, .ref a_seenAt, .ref a_parts, .ref a_partsThen, .int m_keptMany, .ref a_kept])), (a_law, .inl (cI, 22, .inl m_law)), (a_of, .inl (cI, 26, .inl o))] H → va_D A [(ax, .inr (8, [.int m_letterMany, .ref a_text, .int m_readAt, .ref a_told, .ref a_readLaw, .ref a_readNow, .ref a_law, .ref a_now, .ref a_tried, .int m_undoMany, .int m_undoAt, .ref a_undos, .int m_seenMany, .ref a_seenHour, .ref a_seenAt, .ref a_parts, .ref a_partsThen, .int m_keptMany, .ref a_kept])), (a_law, .inl (cI, 22, .inl m_law)), (a_of, .inl (cI, 26, .inl o))] → va_S A s.heap H locs → ∀ ls : Array Slot, lv_has ls 6 [(3, .int v2), (2, .int v4), (0, .ref ax), (1, .ref a_of)] → k17 v4 v5 = some rr → W p l e rm_X8_meetings s m args below meth c H locs 0 0 Q (F0 m 98 ls [])) → ∀ (nf17 : Nat) (v4 : Int32) (v5 : Int32) (H : Heap) (locs : List Loc), va_P D vwCl [(ax, .inr (8, [.int m_letterMany, .ref a_text, .int m_readAt, .ref a_told, .ref a_readLaw, .ref a_readNow, .ref a_law, .ref a_now, .ref a_tried, .int m_undoMany, .int m_undoAt, .ref a_undos, .int m_seenMany, .ref a_seenHour, .ref a_seenAt, .ref a_parts, .ref a_partsThen, .int m_keptMany, .ref a_kept])), (a_law, .inl (cI, 22, .inl m_law)), (a_of, .inl (cI, 26, .inl o))] H → va_D A [(ax, .inr (8, [.int m_letterMany, .ref a_text, .int m_readAt, .ref a_told, .ref a_readLaw, .ref a_readNow, .ref a_law, .ref a_now, .ref a_tried, .int m_undoMany, .int m_undoAt, .ref a_undos, .int m_seenMany, .ref a_seenHour, .ref a_seenAt, .ref a_parts, .ref a_partsThen, .int m_keptMany, .ref a_kept])), (a_law, .inl (cI, 22, .inl m_law)), (a_of, .inl (cI, 26, .inl o))] → va_S A s.heap H locs → ∀ ls : Array Slot, lv_has ls 6 [(4, .int v5), (3, .int v2), (2, .int v4), (0, .ref ax), (1, .ref a_of)] → f_X8_meetings_L17 v2 m_law o k17 nf17 v4 v5 = some rr → W p l e rm_X8_meetings s m args below meth c H locs 0 0 Q (F0 m 17 ls []) := by
          intro k17 hk17 nf17
          induction nf17 with
          | zero =>
            intro v4 v5 H locs hP hD hS ls hl hF
            rw [f_X8_meetings_L17_0] at hF
            cases hF
          | succ nf17 ih17 =>
            intro v4 v5 H locs hP hD hS ls hl hF
            rw [f_X8_meetings_L17_s] at hF
            refine lv_iload hx hb dX8_meetings_17 (lv_at hl 0 rfl) ?_
            refine lv_iload_n hx hb dX8_meetings_19 rfl (lv_at hl 1 rfl) ?_
            refine lv_icmp_ge (tgt := 98) hx hb dX8_meetings_20 (by decide) (fun c6 => ?_) (fun c6 => ?_)
            · have hF := op_pos c6 hF
              exact hk17 v4 v5 _ _ hP hD hS _ (lv_sub hl [1, 2, 3, 4] rfl) hF
            · have hF := op_neg c6 hF
              refine lv_aload_n hx hb dX8_meetings_23 rfl (lv_at hl 3 rfl) ?_
              refine lv_aload_n hx hb dX8_meetings_24 rfl (lv_at hl 4 rfl) ?_
              refine lv_iload_n hx hb dX8_meetings_25 rfl (lv_at hl 1 rfl) ?_
              obtain ⟨r7, hb8, hF⟩ := op_bind hF
              refine xVr (As := [.ref a_of, .int v2]) (rest := []) hC hP hD hS [0, 1, 2] (c_X8_under l D cI cC cM ax a_law a_of a_text a_told a_readLaw a_readNow a_now a_tried a_undos a_seenHour a_seenAt a_parts a_partsThen a_kept m_letterMany m_readAt m_undoMany m_undoAt m_seenMany m_keptMany m_law o v2 r7 hb8) (cwV 2 hts gX8_meetings_X8_under rfl rfl rfl ⟨rfl, pd_X8_under⟩ ⟨Nat.le_of_ble_eq_true rfl, Nat.le_of_ble_eq_true rfl⟩) rfl rfl 0 8 rfl rfl rfl rfl hl.1 rfl (Nat.le_of_ble_eq_true rfl) dX8_meetings_26 ⟨Nat.zero_le _, Nat.zero_le _⟩ (fun H locs hP hS => ?_)
              refine lv_if_eq (tgt := 46) hx hb dX8_meetings_29 (by decide) (fun c9 => ?_) (fun c9 => ?_)
              · have hF := op_pos c9 hF
                refine lv_iconst (v := (0 : Int32)) hx hb dX8_meetings_46 (by decide) ?_
                refine lv_istore (lv' := [(5, .int (0 : Int32)), (4, .int v5), (3, .int v2), (2, .int v4), (0, .ref ax), (1, .ref a_of)]) hx hb dX8_meetings_47 hl (by decide) rfl (fun ls hl => ?_)
                refine lv_iload_n hx hb dX8_meetings_49 rfl (lv_at hl 3 rfl) ?_
                refine lv_iload hx hb dX8_meetings_50 (lv_at hl 0 rfl) ?_
                refine lv_if_eq (tgt := 89) hx hb dX8_meetings_52 (by decide) (fun _ => ?_) (fun c => absurd (by decide) c)
                refine lv_iconst (v := (0 : Int32)) hx hb dX8_meetings_89 (by decide) ?_
                refine lv_iadd hx hb dX8_meetings_90 ?_
                refine lv_istore_n (lv' := [(2, .int (v4 + (0 : Int32))), (5, .int (0 : Int32)), (4, .int v5), (3, .int v2), (0, .ref ax), (1, .ref a_of)]) hx hb dX8_meetings_91 rfl hl (by decide) rfl (fun ls hl => ?_)
                refine lv_iinc (v := (v5 + (1 : Int32))) (lv' := [(4, .int (v5 + (1 : Int32))), (2, .int (v4 + (0 : Int32))), (5, .int (0 : Int32)), (3, .int v2), (0, .ref ax), (1, .ref a_of)]) hx hb dX8_meetings_92 hl (k := 2) rfl (by first | rfl | decide) (by decide) rfl (fun ls hl => ?_)
                refine lv_goto (tgt := 17) hx hb dX8_meetings_95 (by decide) ?_
                exact ih17 (v4 + (0 : Int32)) (v5 + (1 : Int32)) _ _ hP hD hS _ (lv_sub hl [0, 3, 1, 4, 5] rfl) hF
              · have hF := op_neg c9 hF
                refine lv_aload_n hx hb dX8_meetings_32 rfl (lv_at hl 3 rfl) ?_
                refine lv_aload_n hx hb dX8_meetings_33 rfl (lv_at hl 4 rfl) ?_
                refine lv_iload hx hb dX8_meetings_34 (lv_at hl 0 rfl) ?_
                obtain ⟨r10, hb11, hF⟩ := op_bind hF
                refine xVr (As := [.ref a_of, .int v5]) (rest := []) hC hP hD hS [0, 1, 2] (c_X8_under l D cI cC cM ax a_law a_of a_text a_told a_readLaw a_readNow a_now a_tried a_undos a_seenHour a_seenAt a_parts a_partsThen a_kept m_letterMany m_readAt m_undoMany m_undoAt m_seenMany m_keptMany m_law o v5 r10 hb11) (cwV 2 hts gX8_meetings_X8_under rfl rfl rfl ⟨rfl, pd_X8_under⟩ ⟨Nat.le_of_ble_eq_true rfl, Nat.le_of_ble_eq_true rfl⟩) rfl rfl 0 8 rfl rfl rfl rfl hl.1 rfl (Nat.le_of_ble_eq_true rfl) dX8_meetings_36 ⟨Nat.zero_le _, Nat.zero_le _⟩ (fun H locs hP hS => ?_)
                refine lv_if_eq (tgt := 46) hx hb dX8_meetings_39 (by decide) (fun c12 => ?_) (fun c12 => ?_)
                · have hF := op_pos c12 hF
                  refine lv_iconst (v := (0 : Int32)) hx hb dX8_meetings_46 (by decide) ?_
                  refine lv_istore (lv' := [(5, .int (0 : Int32)), (4, .int v5), (3, .int v2), (2, .int v4), (0, .ref ax), (1, .ref a_of)]) hx hb dX8_meetings_47 hl (by decide) rfl (fun ls hl => ?_)
                  refine lv_iload_n hx hb dX8_meetings_49 rfl (lv_at hl 3 rfl) ?_
                  refine lv_iload hx hb dX8_meetings_50 (lv_at hl 0 rfl) ?_
                  refine lv_if_eq (tgt := 89) hx hb dX8_meetings_52 (by decide) (fun _ => ?_) (fun c => absurd (by decide) c)
                  refine lv_iconst (v := (0 : Int32)) hx hb dX8_meetings_89 (by decide) ?_
                  refine lv_iadd hx hb dX8_meetings_90 ?_
                  refine lv_istore_n (lv' := [(2, .int (v4 + (0 : Int32))), (5, .int (0 : Int32)), (4, .int v5), (3, .int v2), (0, .ref ax), (1, .ref a_of)]) hx hb dX8_meetings_91 rfl hl (by decide) rfl (fun ls hl => ?_)
                  refine lv_iinc (v := (v5 + (1 : Int32))) (lv' := [(4, .int (v5 + (1 : Int32))), (2, .int (v4 + (0 : Int32))), (5, .int (0 : Int32)), (3, .int v2), (0, .ref ax), (1, .ref a_of)]) hx hb dX8_meetings_92 hl (k := 2) rfl (by first | rfl | decide) (by decide) rfl (fun ls hl => ?_)
                  refine lv_goto (tgt := 17) hx hb dX8_meetings_95 (by decide) ?_
                  exact ih17 (v4 + (0 : Int32)) (v5 + (1 : Int32)) _ _ hP hD hS _ (lv_sub hl [0, 3, 1, 4, 5] rfl) hF
                · have hF := op_neg c12 hF
                  refine lv_iconst (v := (1 : Int32)) hx hb dX8_meetings_42 (by decide) ?_
                  refine lv_goto (tgt := 47) hx hb dX8_meetings_43 (by decide) ?_
                  refine lv_istore (lv' := [(5, .int (1 : Int32)), (4, .int v5), (3, .int v2), (2, .int v4), (0, .ref ax), (1, .ref a_of)]) hx hb dX8_meetings_47 hl (by decide) rfl (fun ls hl => ?_)
                  refine lv_iload_n hx hb dX8_meetings_49 rfl (lv_at hl 3 rfl) ?_
                  refine lv_iload hx hb dX8_meetings_50 (lv_at hl 0 rfl) ?_
                  refine lv_if_eq (tgt := 89) hx hb dX8_meetings_52 (by decide) (fun c => absurd c (by decide)) (fun _ => ?_)
                  refine lv_aload_n hx hb dX8_meetings_55 rfl (lv_at hl 4 rfl) ?_
                  refine lv_aload_n hx hb dX8_meetings_56 rfl (lv_at hl 5 rfl) ?_
                  refine lv_iload_n hx hb dX8_meetings_57 rfl (lv_at hl 2 rfl) ?_
                  obtain ⟨r13, hb14, hF⟩ := op_bind hF
                  refine xVr (As := [.ref a_of, .int v2]) (rest := [.int v4]) hC hP hD hS [0, 1, 2] (c_X8_squareOf l D cI cC cM ax a_law a_of a_text a_told a_readLaw a_readNow a_now a_tried a_undos a_seenHour a_seenAt a_parts a_partsThen a_kept m_letterMany m_readAt m_undoMany m_undoAt m_seenMany m_keptMany m_law o v2 r13 hb14) (cwV 2 hts gX8_meetings_X8_squareOf rfl rfl rfl ⟨rfl, pd_X8_squareOf⟩ ⟨Nat.le_of_ble_eq_true rfl, Nat.le_of_ble_eq_true rfl⟩) rfl rfl 0 8 rfl rfl rfl rfl hl.1 rfl (Nat.le_of_ble_eq_true rfl) dX8_meetings_58 ⟨Nat.zero_le _, Nat.zero_le _⟩ (fun H locs hP hS => ?_)
                  refine lv_aload_n hx hb dX8_meetings_61 rfl (lv_at hl 4 rfl) ?_
                  refine lv_aload_n hx hb dX8_meetings_62 rfl (lv_at hl 5 rfl) ?_
                  refine lv_iload hx hb dX8_meetings_63 (lv_at hl 1 rfl) ?_
                  obtain ⟨r15, hb16, hF⟩ := op_bind hF
                  refine xVr (As := [.ref a_of, .int v5]) (rest := [.int r13, .int v4]) hC hP hD hS [0, 1, 2] (c_X8_squareOf l D cI cC cM ax a_law a_of a_text a_told a_readLaw a_readNow a_now a_tried a_undos a_seenHour a_seenAt a_parts a_partsThen a_kept m_letterMany m_readAt m_undoMany m_undoAt m_seenMany m_keptMany m_law o v5 r15 hb16) (cwV 2 hts gX8_meetings_X8_squareOf rfl rfl rfl ⟨rfl, pd_X8_squareOf⟩ ⟨Nat.le_of_ble_eq_true rfl, Nat.le_of_ble_eq_true rfl⟩) rfl rfl 0 8 rfl rfl rfl rfl hl.1 rfl (Nat.le_of_ble_eq_true rfl) dX8_meetings_65 ⟨Nat.zero_le _, Nat.zero_le _⟩ (fun H locs hP hS => ?_)
                  refine lv_icmp_ne (tgt := 89) hx hb dX8_meetings_68 (by decide) (fun c17 => ?_) (fun c17 => ?_)
                  · have hF := op_neg c17 hF
                    refine lv_iconst (v := (0 : Int32)) hx hb dX8_meetings_89 (by decide) ?_
                    refine lv_iadd hx hb dX8_meetings_90 ?_
                    refine lv_istore_n (lv' := [(2, .int (v4 + (0 : Int32))), (5, .int (1 : Int32)), (4, .int v5), (3, .int v2), (0, .ref ax), (1, .ref a_of)]) hx hb dX8_meetings_91 rfl hl (by decide) rfl (fun ls hl => ?_)
                    refine lv_iinc (v := (v5 + (1 : Int32))) (lv' := [(4, .int (v5 + (1 : Int32))), (2, .int (v4 + (0 : Int32))), (5, .int (1 : Int32)), (3, .int v2), (0, .ref ax), (1, .ref a_of)]) hx hb dX8_meetings_92 hl (k := 2) rfl (by first | rfl | decide) (by decide) rfl (fun ls hl => ?_)
                    refine lv_goto (tgt := 17) hx hb dX8_meetings_95 (by decide) ?_
                    exact ih17 (v4 + (0 : Int32)) (v5 + (1 : Int32)) _ _ hP hD hS _ (lv_sub hl [0, 3, 1, 4, 5] rfl) hF
                  · have hF := op_pos c17 hF
                    refine lv_aload_n hx hb dX8_meetings_71 rfl (lv_at hl 5 rfl) ?_
                    refine lv_iconst (v := (4 : Int32)) hx hb dX8_meetings_72 (by decide) ?_
                    refine lv_iload_n hx hb dX8_meetings_73 rfl (lv_at hl 2 rfl) ?_
                    refine lv_iadd hx hb dX8_meetings_74 ?_
                    obtain ⟨o18, hF⟩ := op_ob hF
                    refine va_iald hx hb hK hP 2 0 rfl rfl (okb_in o18) dX8_meetings_75 ?_
                    refine lv_aload_n hx hb dX8_meetings_76 rfl (lv_at hl 5 rfl) ?_
                    refine lv_iconst (v := (4 : Int32)) hx hb dX8_meetings_77 (by decide) ?_
                    refine lv_iload hx hb dX8_meetings_78 (lv_at hl 1 rfl) ?_
                    refine lv_iadd hx hb dX8_meetings_80 ?_
                    obtain ⟨o19, hF⟩ := op_ob hF
                    refine va_iald hx hb hK hP 2 0 rfl rfl (okb_in o19) dX8_meetings_81 ?_
                    refine lv_icmp_ne (tgt := 89) hx hb dX8_meetings_82 (by decide) (fun c20 => ?_) (fun c20 => ?_)
                    · have hF := op_neg c20 hF
                      refine lv_iconst (v := (0 : Int32)) hx hb dX8_meetings_89 (by decide) ?_
                      refine lv_iadd hx hb dX8_meetings_90 ?_
                      refine lv_istore_n (lv' := [(2, .int (v4 + (0 : Int32))), (5, .int (1 : Int32)), (4, .int v5), (3, .int v2), (0, .ref ax), (1, .ref a_of)]) hx hb dX8_meetings_91 rfl hl (by decide) rfl (fun ls hl => ?_)
                      refine lv_iinc (v := (v5 + (1 : Int32))) (lv' := [(4, .int (v5 + (1 : Int32))), (2, .int (v4 + (0 : Int32))), (5, .int (1 : Int32)), (3, .int v2), (0, .ref ax), (1, .ref a_of)]) hx hb dX8_meetings_92 hl (k := 2) rfl (by first | rfl | decide) (by decide) rfl (fun ls hl => ?_)
                      refine lv_goto (tgt := 17) hx hb dX8_meetings_95 (by decide) ?_
                      exact ih17 (v4 + (0 : Int32)) (v5 + (1 : Int32)) _ _ hP hD hS _ (lv_sub hl [0, 3, 1, 4, 5] rfl) hF
                    · have hF := op_pos c20 hF
                      refine lv_iconst (v := (1 : Int32)) hx hb dX8_meetings_85 (by decide) ?_
                      refine lv_goto (tgt := 90) hx hb dX8_meetings_86 (by decide) ?_
                      refine lv_iadd hx hb dX8_meetings_90 ?_
                      refine lv_istore_n (lv' := [(2, .int (v4 + (1 : Int32))), (5, .int (1 : Int32)), (4, .int v5), (3, .int v2), (0, .ref ax), (1, .ref a_of)]) hx hb dX8_meetings_91 rfl hl (by decide) rfl (fun ls hl => ?_)
                      refine lv_iinc (v := (v5 + (1 : Int32))) (lv' := [(4, .int (v5 + (1 : Int32))), (2, .int (v4 + (1 : Int32))), (5, .int (1 : Int32)), (3, .int v2), (0, .ref ax), (1, .ref a_of)]) hx hb dX8_meetings_92 hl (k := 2) rfl (by first | rfl | decide) (by decide) rfl (fun ls hl => ?_)
                      refine lv_goto (tgt := 17) hx hb dX8_meetings_95 (by decide) ?_
                      exact ih17 (v4 + (1 : Int32)) (v5 + (1 : Int32)) _ _ hP hD hS _ (lv_sub hl [0, 3, 1, 4, 5] rfl) hF
        refine hL17 _ (fun v4 v5 H locs hP hD hS ls hl hF => ?_) 20000 v1 (0 : Int32) _ _ hP hD hS _ (lv_sub hl [0, 1, 2, 3, 4] rfl) hF
        refine lv_iinc (v := (v2 + (1 : Int32))) (lv' := [(3, .int (v2 + (1 : Int32))), (2, .int v4), (0, .ref ax), (1, .ref a_of)]) hx hb dX8_meetings_98 hl (k := 0) rfl (by first | rfl | decide) (by decide) rfl (fun ls hl => ?_)
        refine lv_goto (tgt := 4) hx hb dX8_meetings_101 (by decide) ?_
        exact ih4 v4 (v2 + (1 : Int32)) _ _ hP hD hS _ (lv_sub hl [0, 1, 2, 3] rfl) hF
  refine hL4 _ (fun v1 v2 H locs hP hD hS ls hl hF => ?_) 20000 (0 : Int32) (0 : Int32) _ _ hP hD hS _ (lv_sub hl [0, 1, 2, 3] rfl) hF
  refine lv_iload_n hx hb dX8_meetings_104 rfl (lv_at hl 0 rfl) ?_
  cases hF
  rw [hQ]
  exact xri hC hP hS dX8_meetings_105

def f_X8_goes_L2 (m_law : (Nat → Int32)) (k2 : Int32 → (Nat → Int32) → Option (Nat → Int32)) : Nat → Int32 → (Nat → Int32) → Option (Nat → Int32)
  | 0, _, _ => none
  | nf2 + 1, v1, o_2 => (if (m_law (3 : Int32).toNatClampNeg) ≤ v1 then (k2 v1 o_2) else (Option.bind (f_X8_isDone m_law o_2 v1) fun r4 => (if r4 = 0 then (f_X8_goes_L2 m_law k2 nf2 (v1 + (1 : Int32)) (upd o_2 (2 : Int32).toNatClampNeg ((o_2 (2 : Int32).toNatClampNeg) ||| (0 : Int32)))) else (f_X8_goes_L2 m_law k2 nf2 (v1 + (1 : Int32)) (upd o_2 (2 : Int32).toNatClampNeg ((o_2 (2 : Int32).toNatClampNeg) ||| ((1 : Int32) <<< (v1 &&& 31))))))))
theorem f_X8_goes_L2_0 (m_law : (Nat → Int32)) (k2 : Int32 → (Nat → Int32) → Option (Nat → Int32)) (v1 : Int32) (o_2 : (Nat → Int32)) : f_X8_goes_L2 m_law k2 0 v1 o_2 = none := rfl
theorem f_X8_goes_L2_s (m_law : (Nat → Int32)) (k2 : Int32 → (Nat → Int32) → Option (Nat → Int32)) (nf2 : Nat) (v1 : Int32) (o_2 : (Nat → Int32)) : f_X8_goes_L2 m_law k2 (nf2 + 1) v1 o_2 = (if (m_law (3 : Int32).toNatClampNeg) ≤ v1 then (k2 v1 o_2) else (Option.bind (f_X8_isDone m_law o_2 v1) fun r4 => (if r4 = 0 then (f_X8_goes_L2 m_law k2 nf2 (v1 + (1 : Int32)) (upd o_2 (2 : Int32).toNatClampNeg ((o_2 (2 : Int32).toNatClampNeg) ||| (0 : Int32)))) else (f_X8_goes_L2 m_law k2 nf2 (v1 + (1 : Int32)) (upd o_2 (2 : Int32).toNatClampNeg ((o_2 (2 : Int32).toNatClampNeg) ||| ((1 : Int32) <<< (v1 &&& 31)))))))) := rfl

def f_X8_goes_L53 (m_law : (Nat → Int32)) (k53 : Int32 → (Nat → Int32) → Option (Nat → Int32)) : Nat → Int32 → (Nat → Int32) → Option (Nat → Int32)
  | 0, _, _ => none
  | nf53 + 1, v9, o_10 => (if (m_law (2 : Int32).toNatClampNeg) ≤ v9 then (k53 v9 o_10) else (Option.bind (f_X8_hasShade o_10 v9) fun r12 => (if r12 = 0 then (f_X8_goes_L53 m_law k53 nf53 (v9 + (1 : Int32)) (upd o_10 (3 : Int32).toNatClampNeg ((o_10 (3 : Int32).toNatClampNeg) ||| ((1 : Int32) <<< (v9 &&& 31))))) else (f_X8_goes_L53 m_law k53 nf53 (v9 + (1 : Int32)) (upd o_10 (3 : Int32).toNatClampNeg ((o_10 (3 : Int32).toNatClampNeg) ||| (0 : Int32)))))))
theorem f_X8_goes_L53_0 (m_law : (Nat → Int32)) (k53 : Int32 → (Nat → Int32) → Option (Nat → Int32)) (v9 : Int32) (o_10 : (Nat → Int32)) : f_X8_goes_L53 m_law k53 0 v9 o_10 = none := rfl
theorem f_X8_goes_L53_s (m_law : (Nat → Int32)) (k53 : Int32 → (Nat → Int32) → Option (Nat → Int32)) (nf53 : Nat) (v9 : Int32) (o_10 : (Nat → Int32)) : f_X8_goes_L53 m_law k53 (nf53 + 1) v9 o_10 = (if (m_law (2 : Int32).toNatClampNeg) ≤ v9 then (k53 v9 o_10) else (Option.bind (f_X8_hasShade o_10 v9) fun r12 => (if r12 = 0 then (f_X8_goes_L53 m_law k53 nf53 (v9 + (1 : Int32)) (upd o_10 (3 : Int32).toNatClampNeg ((o_10 (3 : Int32).toNatClampNeg) ||| ((1 : Int32) <<< (v9 &&& 31))))) else (f_X8_goes_L53 m_law k53 nf53 (v9 + (1 : Int32)) (upd o_10 (3 : Int32).toNatClampNeg ((o_10 (3 : Int32).toNatClampNeg) ||| (0 : Int32))))))) := rfl

def f_X8_goes_L92 (m_law : (Nat → Int32)) (k92 : Int32 → (Nat → Int32) → Option (Nat → Int32)) : Nat → Int32 → (Nat → Int32) → Option (Nat → Int32)
  | 0, _, _ => none
  | nf92 + 1, v15, o_16 => (if (m_law (1 : Int32).toNatClampNeg) ≤ v15 then (k92 v15 o_16) else (Option.bind (f_X8_under m_law o_16 v15) fun r18 => (if r18 = 0 then (f_X8_goes_L92 m_law k92 nf92 (v15 + (1 : Int32)) o_16) else (if okb ((4 : Int32) + v15) 26 = true then (Option.bind (f_X8_goesOn m_law v15 (o_16 (0 : Int32).toNatClampNeg)) fun r22 => (if okb ((10 : Int32) + v15) 26 = true then (Option.bind (f_X8_wears m_law v15 ((upd o_16 ((4 : Int32) + v15).toNatClampNeg (jrem ((o_16 ((4 : Int32) + v15).toNatClampNeg) + r22) (24 : Int32))) (0 : Int32).toNatClampNeg)) fun r25 => (if (((upd o_16 ((4 : Int32) + v15).toNatClampNeg (jrem ((o_16 ((4 : Int32) + v15).toNatClampNeg) + r22) (24 : Int32))) ((10 : Int32) + v15).toNatClampNeg) + r25) ≤ (20 : Int32) then (f_X8_goes_L92 m_law k92 nf92 (v15 + (1 : Int32)) (upd (upd o_16 ((4 : Int32) + v15).toNatClampNeg (jrem ((o_16 ((4 : Int32) + v15).toNatClampNeg) + r22) (24 : Int32))) ((10 : Int32) + v15).toNatClampNeg (((upd o_16 ((4 : Int32) + v15).toNatClampNeg (jrem ((o_16 ((4 : Int32) + v15).toNatClampNeg) + r22) (24 : Int32))) ((10 : Int32) + v15).toNatClampNeg) + r25))) else (f_X8_goes_L92 m_law k92 nf92 (v15 + (1 : Int32)) (upd (upd o_16 ((4 : Int32) + v15).toNatClampNeg (jrem ((o_16 ((4 : Int32) + v15).toNatClampNeg) + r22) (24 : Int32))) ((10 : Int32) + v15).toNatClampNeg (20 : Int32))))) else none)) else none))))
theorem f_X8_goes_L92_0 (m_law : (Nat → Int32)) (k92 : Int32 → (Nat → Int32) → Option (Nat → Int32)) (v15 : Int32) (o_16 : (Nat → Int32)) : f_X8_goes_L92 m_law k92 0 v15 o_16 = none := rfl
theorem f_X8_goes_L92_s (m_law : (Nat → Int32)) (k92 : Int32 → (Nat → Int32) → Option (Nat → Int32)) (nf92 : Nat) (v15 : Int32) (o_16 : (Nat → Int32)) : f_X8_goes_L92 m_law k92 (nf92 + 1) v15 o_16 = (if (m_law (1 : Int32).toNatClampNeg) ≤ v15 then (k92 v15 o_16) else (Option.bind (f_X8_under m_law o_16 v15) fun r18 => (if r18 = 0 then (f_X8_goes_L92 m_law k92 nf92 (v15 + (1 : Int32)) o_16) else (if okb ((4 : Int32) + v15) 26 = true then (Option.bind (f_X8_goesOn m_law v15 (o_16 (0 : Int32).toNatClampNeg)) fun r22 => (if okb ((10 : Int32) + v15) 26 = true then (Option.bind (f_X8_wears m_law v15 ((upd o_16 ((4 : Int32) + v15).toNatClampNeg (jrem ((o_16 ((4 : Int32) + v15).toNatClampNeg) + r22) (24 : Int32))) (0 : Int32).toNatClampNeg)) fun r25 => (if (((upd o_16 ((4 : Int32) + v15).toNatClampNeg (jrem ((o_16 ((4 : Int32) + v15).toNatClampNeg) + r22) (24 : Int32))) ((10 : Int32) + v15).toNatClampNeg) + r25) ≤ (20 : Int32) then (f_X8_goes_L92 m_law k92 nf92 (v15 + (1 : Int32)) (upd (upd o_16 ((4 : Int32) + v15).toNatClampNeg (jrem ((o_16 ((4 : Int32) + v15).toNatClampNeg) + r22) (24 : Int32))) ((10 : Int32) + v15).toNatClampNeg (((upd o_16 ((4 : Int32) + v15).toNatClampNeg (jrem ((o_16 ((4 : Int32) + v15).toNatClampNeg) + r22) (24 : Int32))) ((10 : Int32) + v15).toNatClampNeg) + r25))) else (f_X8_goes_L92 m_law k92 nf92 (v15 + (1 : Int32)) (upd (upd o_16 ((4 : Int32) + v15).toNatClampNeg (jrem ((o_16 ((4 : Int32) + v15).toNatClampNeg) + r22) (24 : Int32))) ((10 : Int32) + v15).toNatClampNeg (20 : Int32))))) else none)) else none)))) := rfl

def f_X8_goes (m_law : (Nat → Int32)) (o : (Nat → Int32)) : Option (Nat → Int32) := (f_X8_goes_L2 m_law (fun (v1 : Int32) (o_2 : (Nat → Int32)) => (Option.bind (f_X8_meetings m_law o_2) fun r7 => (f_X8_goes_L53 m_law (fun (v9 : Int32) (o_10 : (Nat → Int32)) => (f_X8_goes_L92 m_law (fun (v15 : Int32) (o_16 : (Nat → Int32)) => (some (upd o_16 (0 : Int32).toNatClampNeg ((o_16 (0 : Int32).toNatClampNeg) + (1 : Int32))))) 20000 (0 : Int32) o_10)) 20000 (0 : Int32) (upd o_2 (1 : Int32).toNatClampNeg ((o_2 (1 : Int32).toNatClampNeg) + r7))))) 20000 (0 : Int32) o)

def rm_X8_goes : Room := { frames := 3, cells := 0, slots := 0, locals := 67 }

theorem pd_X8_goes : yX8_goes.cls ≠ "java/lang/invoke/MethodHandle" ∧ yX8_goes.cls ≠ "java/lang/invoke/VarHandle" ∧ (parseMethodDescriptor yX8_goes.desc).map (fun d => d.parameters.length) = some 1 := by decide +kernel

set_option maxHeartbeats 4000000 in
set_option maxRecDepth 100000 in
theorem c_X8_goes (l : Launch) (D : va_G) (cI cC cM : ClassId) (ax a_law a_of a_text a_told a_readLaw a_readNow a_now a_tried a_undos a_seenHour a_seenAt a_parts a_partsThen a_kept : Nat) (m_letterMany : Int32) (m_readAt : Int32) (m_undoMany : Int32) (m_undoAt : Int32) (m_seenMany : Int32) (m_keptMany : Int32) (m_law : (Nat → Int32)) (o : (Nat → Int32)) (o' : (Nat → Int32)) (hF : f_X8_goes m_law o = some o') : CV l D cI cC cM yX8_goes wsX8_goes rm_X8_goes [.ref ax, .ref a_of] [(ax, .inr (8, [.int m_letterMany, .ref a_text, .int m_readAt, .ref a_told, .ref a_readLaw, .ref a_readNow, .ref a_law, .ref a_now, .ref a_tried, .int m_undoMany, .int m_undoAt, .ref a_undos, .int m_seenMany, .ref a_seenHour, .ref a_seenAt, .ref a_parts, .ref a_partsThen, .int m_keptMany, .ref a_kept])), (a_law, .inl (cI, 22, .inl m_law)), (a_of, .inl (cI, 26, .inl o))] [(ax, .inr (8, [.int m_letterMany, .ref a_text, .int m_readAt, .ref a_told, .ref a_readLaw, .ref a_readNow, .ref a_law, .ref a_now, .ref a_tried, .int m_undoMany, .int m_undoAt, .ref a_undos, .int m_seenMany, .ref a_seenHour, .ref a_seenAt, .ref a_parts, .ref a_partsThen, .int m_keptMany, .ref a_kept])), (a_law, .inl (cI, 22, .inl m_law)), (a_of, .inl (cI, 26, .inl o'))] := by
  refine CV.of (cc := cX8_goes) (nL := 4) (ret := none) (by decide) rfl (Nat.le_of_ble_eq_true rfl) ?_
  intro p e s m args below meth c A hC hP hD hS ls hl
  obtain ⟨hx, hb, hml, hown, hts, hr, hlk, hG, hA⟩ := id hC
  have hown : s.vm.findClass RX8 = some m.cls := hown
  have hK := hG.1
  have hl : lv_has ls 4 [(0, .ref ax), (1, .ref a_of)] := hl
  have k_f22 := hts (.fieldLink RX8 22 "ParasolHoursModel" "law" "[I") (List.mem_of_getElem? (i := 1) rfl)
  have iX8 : ∀ w ∈ wsX80, w ∈ wsX8_goes := by decide +kernel
  obtain ⟨Q, hQ⟩ : ∃ Q, Q = MQ below (QV D [(ax, .inr (8, [.int m_letterMany, .ref a_text, .int m_readAt, .ref a_told, .ref a_readLaw, .ref a_readNow, .ref a_law, .ref a_now, .ref a_tried, .int m_undoMany, .int m_undoAt, .ref a_undos, .int m_seenMany, .ref a_seenHour, .ref a_seenAt, .ref a_parts, .ref a_partsThen, .int m_keptMany, .ref a_kept])), (a_law, .inl (cI, 22, .inl m_law)), (a_of, .inl (cI, 26, .inl o'))] A) args s 0 0 A := ⟨_, rfl⟩
  rw [← hQ]
  unfold f_X8_goes at hF
  refine lv_iconst (v := (0 : Int32)) hx hb dX8_goes_0 (by decide) ?_
  refine lv_istore_n (lv' := [(2, .int (0 : Int32)), (0, .ref ax), (1, .ref a_of)]) hx hb dX8_goes_1 rfl hl (by decide) rfl (fun ls hl => ?_)
  have hL2 : ∀ (k2 : Int32 → (Nat → Int32) → Option (Nat → Int32)), (∀ (v1 : Int32) (o_2 : (Nat → Int32)) (H : Heap) (locs : List Loc), va_P D vwCl [(ax, .inr (8, [.int m_letterMany, .ref a_text, .int m_readAt, .ref a_told, .ref a_readLaw, .ref a_readNow, .ref a_law, .ref a_now, .ref a_tried, .int m_undoMany, .int m_undoAt, .ref a_undos, .int m_seenMany, .ref a_seenHour, .ref a_seenAt, .ref a_parts, .ref a_partsThen, .int m_keptMany, .ref a_kept])), (a_law, .inl (cI, 22, .inl m_law)), (a_of, .inl (cI, 26, .inl o_2))] H → va_D A [(ax, .inr (8, [.int m_letterMany, .ref a_text, .int m_readAt, .ref a_told, .ref a_readLaw, .ref a_readNow, .ref a_law, .ref a_now, .ref a_tried, .int m_undoMany, .int m_undoAt, .ref a_undos, .int m_seenMany, .ref a_seenHour, .ref a_seenAt, .ref a_parts, .ref a_partsThen, .int m_keptMany, .ref a_kept])), (a_law, .inl (cI, 22, .inl m_law)), (a_of, .inl (cI, 26, .inl o_2))] → va_S A s.heap H locs → ∀ ls : Array Slot, lv_has ls 4 [(0, .ref ax), (1, .ref a_of)] → k2 v1 o_2 = some o' → W p l e rm_X8_goes s m args below meth c H locs 0 0 Q (F0 m 40 ls [])) → ∀ (nf2 : Nat) (v1 : Int32) (o_2 : (Nat → Int32)) (H : Heap) (locs : List Loc), va_P D vwCl [(ax, .inr (8, [.int m_letterMany, .ref a_text, .int m_readAt, .ref a_told, .ref a_readLaw, .ref a_readNow, .ref a_law, .ref a_now, .ref a_tried, .int m_undoMany, .int m_undoAt, .ref a_undos, .int m_seenMany, .ref a_seenHour, .ref a_seenAt, .ref a_parts, .ref a_partsThen, .int m_keptMany, .ref a_kept])), (a_law, .inl (cI, 22, .inl m_law)), (a_of, .inl (cI, 26, .inl o_2))] H → va_D A [(ax, .inr (8, [.int m_letterMany, .ref a_text, .int m_readAt, .ref a_told, .ref a_readLaw, .ref a_readNow, .ref a_law, .ref a_now, .ref a_tried, .int m_undoMany, .int m_undoAt, .ref a_undos, .int m_seenMany, .ref a_seenHour, .ref a_seenAt, .ref a_parts, .ref a_partsThen, .int m_keptMany, .ref a_kept])), (a_law, .inl (cI, 22, .inl m_law)), (a_of, .inl (cI, 26, .inl o_2))] → va_S A s.heap H locs → ∀ ls : Array Slot, lv_has ls 4 [(2, .int v1), (0, .ref ax), (1, .ref a_of)] → f_X8_goes_L2 m_law k2 nf2 v1 o_2 = some o' → W p l e rm_X8_goes s m args below meth c H locs 0 0 Q (F0 m 2 ls []) := by
    intro k2 hk2 nf2
    induction nf2 with
    | zero =>
      intro v1 o_2 H locs hP hD hS ls hl hF
      rw [f_X8_goes_L2_0] at hF
      cases hF
    | succ nf2 ih2 =>
      intro v1 o_2 H locs hP hD hS ls hl hF
      rw [f_X8_goes_L2_s] at hF
      refine lv_iload_n hx hb dX8_goes_2 rfl (lv_at hl 0 rfl) ?_
      refine lv_aload_n hx hb dX8_goes_3 rfl (lv_at hl 1 rfl) ?_
      refine va_get (D := D) (ci := 8) (v := .ref a_law) (C := RX8) (T := TX8) (N := 19) hx hb hts iX8 hown hK hP 0 rfl rfl 6 (by decide) k_f22 (fun _ h9 => h9) rfl dX8_goes_4 ?_
      refine lv_iconst (v := (3 : Int32)) hx hb dX8_goes_7 (by decide) ?_
      refine va_iald hx hb hK hP 1 0 rfl rfl (okb_in (by decide)) dX8_goes_8 ?_
      refine lv_icmp_ge (tgt := 40) hx hb dX8_goes_9 (by decide) (fun c3 => ?_) (fun c3 => ?_)
      · have hF := op_pos c3 hF
        exact hk2 v1 o_2 _ _ hP hD hS _ (lv_sub hl [1, 2] rfl) hF
      · have hF := op_neg c3 hF
        refine lv_aload_n hx hb dX8_goes_12 rfl (lv_at hl 2 rfl) ?_
        refine lv_iconst (v := (2 : Int32)) hx hb dX8_goes_13 (by decide) ?_
        refine lv_dup2_11 hx hb dX8_goes_14 rfl rfl ?_
        refine va_iald hx hb hK hP 2 0 rfl rfl (okb_in (by decide)) dX8_goes_15 ?_
        refine lv_aload_n hx hb dX8_goes_16 rfl (lv_at hl 1 rfl) ?_
        refine lv_aload_n hx hb dX8_goes_17 rfl (lv_at hl 2 rfl) ?_
        refine lv_iload_n hx hb dX8_goes_18 rfl (lv_at hl 0 rfl) ?_
        obtain ⟨r4, hb5, hF⟩ := op_bind hF
        refine xVr (As := [.ref a_of, .int v1]) (rest := [.int (o_2 (2 : Int32).toNatClampNeg), .int (2 : Int32), .ref a_of]) hC hP hD hS [0, 1, 2] (c_X8_isDone l D cI cC cM ax a_law a_of a_text a_told a_readLaw a_readNow a_now a_tried a_undos a_seenHour a_seenAt a_parts a_partsThen a_kept m_letterMany m_readAt m_undoMany m_undoAt m_seenMany m_keptMany m_law o_2 v1 r4 hb5) (cwV 2 hts gX8_goes_X8_isDone rfl rfl rfl ⟨rfl, pd_X8_isDone⟩ ⟨Nat.le_of_ble_eq_true rfl, Nat.le_of_ble_eq_true rfl⟩) rfl rfl 0 8 rfl rfl rfl rfl hl.1 rfl (Nat.le_of_ble_eq_true rfl) dX8_goes_19 ⟨Nat.zero_le _, Nat.zero_le _⟩ (fun H locs hP hS => ?_)
        refine lv_if_eq (tgt := 31) hx hb dX8_goes_22 (by decide) (fun c6 => ?_) (fun c6 => ?_)
        · have hF := op_pos c6 hF
          refine lv_iconst (v := (0 : Int32)) hx hb dX8_goes_31 (by decide) ?_
          refine lv_ior hx hb dX8_goes_32 ?_
          refine va_iast hx hb hK hP hD hS 2 0 rfl rfl (okb_in (by decide)) dX8_goes_33 (fun H locs hP hD hS => ?_)
          have hP : va_P D vwCl [(ax, .inr (8, [.int m_letterMany, .ref a_text, .int m_readAt, .ref a_told, .ref a_readLaw, .ref a_readNow, .ref a_law, .ref a_now, .ref a_tried, .int m_undoMany, .int m_undoAt, .ref a_undos, .int m_seenMany, .ref a_seenHour, .ref a_seenAt, .ref a_parts, .ref a_partsThen, .int m_keptMany, .ref a_kept])), (a_law, .inl (cI, 22, .inl m_law)), (a_of, .inl (cI, 26, .inl (upd o_2 (2 : Int32).toNatClampNeg ((o_2 (2 : Int32).toNatClampNeg) ||| (0 : Int32)))))] H := hP
          have hD : va_D A [(ax, .inr (8, [.int m_letterMany, .ref a_text, .int m_readAt, .ref a_told, .ref a_readLaw, .ref a_readNow, .ref a_law, .ref a_now, .ref a_tried, .int m_undoMany, .int m_undoAt, .ref a_undos, .int m_seenMany, .ref a_seenHour, .ref a_seenAt, .ref a_parts, .ref a_partsThen, .int m_keptMany, .ref a_kept])), (a_law, .inl (cI, 22, .inl m_law)), (a_of, .inl (cI, 26, .inl (upd o_2 (2 : Int32).toNatClampNeg ((o_2 (2 : Int32).toNatClampNeg) ||| (0 : Int32)))))] := hD
          refine lv_iinc (v := (v1 + (1 : Int32))) (lv' := [(2, .int (v1 + (1 : Int32))), (0, .ref ax), (1, .ref a_of)]) hx hb dX8_goes_34 hl (k := 0) rfl (by first | rfl | decide) (by decide) rfl (fun ls hl => ?_)
          refine lv_goto (tgt := 2) hx hb dX8_goes_37 (by decide) ?_
          exact ih2 (v1 + (1 : Int32)) (upd o_2 (2 : Int32).toNatClampNeg ((o_2 (2 : Int32).toNatClampNeg) ||| (0 : Int32))) _ _ hP hD hS _ (lv_sub hl [0, 1, 2] rfl) hF
        · have hF := op_neg c6 hF
          refine lv_iconst (v := (1 : Int32)) hx hb dX8_goes_25 (by decide) ?_
          refine lv_iload_n hx hb dX8_goes_26 rfl (lv_at hl 0 rfl) ?_
          refine lv_ishl hx hb dX8_goes_27 ?_
          refine lv_goto (tgt := 32) hx hb dX8_goes_28 (by decide) ?_
          refine lv_ior hx hb dX8_goes_32 ?_
          refine va_iast hx hb hK hP hD hS 2 0 rfl rfl (okb_in (by decide)) dX8_goes_33 (fun H locs hP hD hS => ?_)
          have hP : va_P D vwCl [(ax, .inr (8, [.int m_letterMany, .ref a_text, .int m_readAt, .ref a_told, .ref a_readLaw, .ref a_readNow, .ref a_law, .ref a_now, .ref a_tried, .int m_undoMany, .int m_undoAt, .ref a_undos, .int m_seenMany, .ref a_seenHour, .ref a_seenAt, .ref a_parts, .ref a_partsThen, .int m_keptMany, .ref a_kept])), (a_law, .inl (cI, 22, .inl m_law)), (a_of, .inl (cI, 26, .inl (upd o_2 (2 : Int32).toNatClampNeg ((o_2 (2 : Int32).toNatClampNeg) ||| ((1 : Int32) <<< (v1 &&& 31))))))] H := hP
          have hD : va_D A [(ax, .inr (8, [.int m_letterMany, .ref a_text, .int m_readAt, .ref a_told, .ref a_readLaw, .ref a_readNow, .ref a_law, .ref a_now, .ref a_tried, .int m_undoMany, .int m_undoAt, .ref a_undos, .int m_seenMany, .ref a_seenHour, .ref a_seenAt, .ref a_parts, .ref a_partsThen, .int m_keptMany, .ref a_kept])), (a_law, .inl (cI, 22, .inl m_law)), (a_of, .inl (cI, 26, .inl (upd o_2 (2 : Int32).toNatClampNeg ((o_2 (2 : Int32).toNatClampNeg) ||| ((1 : Int32) <<< (v1 &&& 31))))))] := hD
          refine lv_iinc (v := (v1 + (1 : Int32))) (lv' := [(2, .int (v1 + (1 : Int32))), (0, .ref ax), (1, .ref a_of)]) hx hb dX8_goes_34 hl (k := 0) rfl (by first | rfl | decide) (by decide) rfl (fun ls hl => ?_)
          refine lv_goto (tgt := 2) hx hb dX8_goes_37 (by decide) ?_
          exact ih2 (v1 + (1 : Int32)) (upd o_2 (2 : Int32).toNatClampNeg ((o_2 (2 : Int32).toNatClampNeg) ||| ((1 : Int32) <<< (v1 &&& 31)))) _ _ hP hD hS _ (lv_sub hl [0, 1, 2] rfl) hF
  refine hL2 _ (fun v1 o_2 H locs hP hD hS ls hl hF => ?_) 20000 (0 : Int32) o _ _ hP hD hS _ (lv_sub hl [0, 1, 2] rfl) hF
  refine lv_aload_n hx hb dX8_goes_40 rfl (lv_at hl 1 rfl) ?_
  refine lv_iconst (v := (1 : Int32)) hx hb dX8_goes_41 (by decide) ?_
  refine lv_dup2_11 hx hb dX8_goes_42 rfl rfl ?_
  refine va_iald hx hb hK hP 2 0 rfl rfl (okb_in (by decide)) dX8_goes_43 ?_
  refine lv_aload_n hx hb dX8_goes_44 rfl (lv_at hl 0 rfl) ?_
  refine lv_aload_n hx hb dX8_goes_45 rfl (lv_at hl 1 rfl) ?_
  obtain ⟨r7, hb8, hF⟩ := op_bind hF
  refine xVr (As := [.ref a_of]) (rest := [.int (o_2 (1 : Int32).toNatClampNeg), .int (1 : Int32), .ref a_of]) hC hP hD hS [0, 1, 2] (c_X8_meetings l D cI cC cM ax a_law a_of a_text a_told a_readLaw a_readNow a_now a_tried a_undos a_seenHour a_seenAt a_parts a_partsThen a_kept m_letterMany m_readAt m_undoMany m_undoAt m_seenMany m_keptMany m_law o_2 r7 hb8) (cwV 1 hts gX8_goes_X8_meetings rfl rfl rfl ⟨rfl, pd_X8_meetings⟩ ⟨Nat.le_of_ble_eq_true rfl, Nat.le_of_ble_eq_true rfl⟩) rfl rfl 0 8 rfl rfl rfl rfl hl.1 rfl (Nat.le_of_ble_eq_true rfl) dX8_goes_46 ⟨Nat.zero_le _, Nat.zero_le _⟩ (fun H locs hP hS => ?_)
  refine lv_iadd hx hb dX8_goes_49 ?_
  refine va_iast hx hb hK hP hD hS 2 0 rfl rfl (okb_in (by decide)) dX8_goes_50 (fun H locs hP hD hS => ?_)
  have hP : va_P D vwCl [(ax, .inr (8, [.int m_letterMany, .ref a_text, .int m_readAt, .ref a_told, .ref a_readLaw, .ref a_readNow, .ref a_law, .ref a_now, .ref a_tried, .int m_undoMany, .int m_undoAt, .ref a_undos, .int m_seenMany, .ref a_seenHour, .ref a_seenAt, .ref a_parts, .ref a_partsThen, .int m_keptMany, .ref a_kept])), (a_law, .inl (cI, 22, .inl m_law)), (a_of, .inl (cI, 26, .inl (upd o_2 (1 : Int32).toNatClampNeg ((o_2 (1 : Int32).toNatClampNeg) + r7))))] H := hP
  have hD : va_D A [(ax, .inr (8, [.int m_letterMany, .ref a_text, .int m_readAt, .ref a_told, .ref a_readLaw, .ref a_readNow, .ref a_law, .ref a_now, .ref a_tried, .int m_undoMany, .int m_undoAt, .ref a_undos, .int m_seenMany, .ref a_seenHour, .ref a_seenAt, .ref a_parts, .ref a_partsThen, .int m_keptMany, .ref a_kept])), (a_law, .inl (cI, 22, .inl m_law)), (a_of, .inl (cI, 26, .inl (upd o_2 (1 : Int32).toNatClampNeg ((o_2 (1 : Int32).toNatClampNeg) + r7))))] := hD
  refine lv_iconst (v := (0 : Int32)) hx hb dX8_goes_51 (by decide) ?_
  refine lv_istore_n (lv' := [(2, .int (0 : Int32)), (0, .ref ax), (1, .ref a_of)]) hx hb dX8_goes_52 rfl hl (by decide) rfl (fun ls hl => ?_)
  have hL53 : ∀ (k53 : Int32 → (Nat → Int32) → Option (Nat → Int32)), (∀ (v9 : Int32) (o_10 : (Nat → Int32)) (H : Heap) (locs : List Loc), va_P D vwCl [(ax, .inr (8, [.int m_letterMany, .ref a_text, .int m_readAt, .ref a_told, .ref a_readLaw, .ref a_readNow, .ref a_law, .ref a_now, .ref a_tried, .int m_undoMany, .int m_undoAt, .ref a_undos, .int m_seenMany, .ref a_seenHour, .ref a_seenAt, .ref a_parts, .ref a_partsThen, .int m_keptMany, .ref a_kept])), (a_law, .inl (cI, 22, .inl m_law)), (a_of, .inl (cI, 26, .inl o_10))] H → va_D A [(ax, .inr (8, [.int m_letterMany, .ref a_text, .int m_readAt, .ref a_told, .ref a_readLaw, .ref a_readNow, .ref a_law, .ref a_now, .ref a_tried, .int m_undoMany, .int m_undoAt, .ref a_undos, .int m_seenMany, .ref a_seenHour, .ref a_seenAt, .ref a_parts, .ref a_partsThen, .int m_keptMany, .ref a_kept])), (a_law, .inl (cI, 22, .inl m_law)), (a_of, .inl (cI, 26, .inl o_10))] → va_S A s.heap H locs → ∀ ls : Array Slot, lv_has ls 4 [(0, .ref ax), (1, .ref a_of)] → k53 v9 o_10 = some o' → W p l e rm_X8_goes s m args below meth c H locs 0 0 Q (F0 m 90 ls [])) → ∀ (nf53 : Nat) (v9 : Int32) (o_10 : (Nat → Int32)) (H : Heap) (locs : List Loc), va_P D vwCl [(ax, .inr (8, [.int m_letterMany, .ref a_text, .int m_readAt, .ref a_told, .ref a_readLaw, .ref a_readNow, .ref a_law, .ref a_now, .ref a_tried, .int m_undoMany, .int m_undoAt, .ref a_undos, .int m_seenMany, .ref a_seenHour, .ref a_seenAt, .ref a_parts, .ref a_partsThen, .int m_keptMany, .ref a_kept])), (a_law, .inl (cI, 22, .inl m_law)), (a_of, .inl (cI, 26, .inl o_10))] H → va_D A [(ax, .inr (8, [.int m_letterMany, .ref a_text, .int m_readAt, .ref a_told, .ref a_readLaw, .ref a_readNow, .ref a_law, .ref a_now, .ref a_tried, .int m_undoMany, .int m_undoAt, .ref a_undos, .int m_seenMany, .ref a_seenHour, .ref a_seenAt, .ref a_parts, .ref a_partsThen, .int m_keptMany, .ref a_kept])), (a_law, .inl (cI, 22, .inl m_law)), (a_of, .inl (cI, 26, .inl o_10))] → va_S A s.heap H locs → ∀ ls : Array Slot, lv_has ls 4 [(2, .int v9), (0, .ref ax), (1, .ref a_of)] → f_X8_goes_L53 m_law k53 nf53 v9 o_10 = some o' → W p l e rm_X8_goes s m args below meth c H locs 0 0 Q (F0 m 53 ls []) := by
    intro k53 hk53 nf53
    induction nf53 with
    | zero =>
      intro v9 o_10 H locs hP hD hS ls hl hF
      rw [f_X8_goes_L53_0] at hF
      cases hF
    | succ nf53 ih53 =>
      intro v9 o_10 H locs hP hD hS ls hl hF
      rw [f_X8_goes_L53_s] at hF
      refine lv_iload_n hx hb dX8_goes_53 rfl (lv_at hl 0 rfl) ?_
      refine lv_aload_n hx hb dX8_goes_54 rfl (lv_at hl 1 rfl) ?_
      refine va_get (D := D) (ci := 8) (v := .ref a_law) (C := RX8) (T := TX8) (N := 19) hx hb hts iX8 hown hK hP 0 rfl rfl 6 (by decide) k_f22 (fun _ h9 => h9) rfl dX8_goes_55 ?_
      refine lv_iconst (v := (2 : Int32)) hx hb dX8_goes_58 (by decide) ?_
      refine va_iald hx hb hK hP 1 0 rfl rfl (okb_in (by decide)) dX8_goes_59 ?_
      refine lv_icmp_ge (tgt := 90) hx hb dX8_goes_60 (by decide) (fun c11 => ?_) (fun c11 => ?_)
      · have hF := op_pos c11 hF
        exact hk53 v9 o_10 _ _ hP hD hS _ (lv_sub hl [1, 2] rfl) hF
      · have hF := op_neg c11 hF
        refine lv_aload_n hx hb dX8_goes_63 rfl (lv_at hl 2 rfl) ?_
        refine lv_iconst (v := (3 : Int32)) hx hb dX8_goes_64 (by decide) ?_
        refine lv_dup2_11 hx hb dX8_goes_65 rfl rfl ?_
        refine va_iald hx hb hK hP 2 0 rfl rfl (okb_in (by decide)) dX8_goes_66 ?_
        refine lv_aload_n hx hb dX8_goes_67 rfl (lv_at hl 2 rfl) ?_
        refine lv_iload_n hx hb dX8_goes_68 rfl (lv_at hl 0 rfl) ?_
        obtain ⟨r12, hb13, hF⟩ := op_bind hF
        refine xSr (As := [.ref a_of, .int v9]) (rest := [.int (o_10 (3 : Int32).toNatClampNeg), .int (3 : Int32), .ref a_of]) hC hP hD hS [2] (c_X8_hasShade l D cI cC cM a_of o_10 v9 r12 hb13) (va_cwS 2 hts gX8_goes_X8_hasShade rfl rfl rfl pd_X8_hasShade ⟨Nat.le_of_ble_eq_true rfl, Nat.le_of_ble_eq_true rfl⟩) rfl rfl rfl hl.1 rfl (Nat.le_of_ble_eq_true rfl) dX8_goes_69 ⟨Nat.zero_le _, Nat.zero_le _⟩ (fun H locs hP hS => ?_)
        refine lv_if_eq (tgt := 79) hx hb dX8_goes_72 (by decide) (fun c14 => ?_) (fun c14 => ?_)
        · have hF := op_pos c14 hF
          refine lv_iconst (v := (1 : Int32)) hx hb dX8_goes_79 (by decide) ?_
          refine lv_iload_n hx hb dX8_goes_80 rfl (lv_at hl 0 rfl) ?_
          refine lv_ishl hx hb dX8_goes_81 ?_
          refine lv_ior hx hb dX8_goes_82 ?_
          refine va_iast hx hb hK hP hD hS 2 0 rfl rfl (okb_in (by decide)) dX8_goes_83 (fun H locs hP hD hS => ?_)
          have hP : va_P D vwCl [(ax, .inr (8, [.int m_letterMany, .ref a_text, .int m_readAt, .ref a_told, .ref a_readLaw, .ref a_readNow, .ref a_law, .ref a_now, .ref a_tried, .int m_undoMany, .int m_undoAt, .ref a_undos, .int m_seenMany, .ref a_seenHour, .ref a_seenAt, .ref a_parts, .ref a_partsThen, .int m_keptMany, .ref a_kept])), (a_law, .inl (cI, 22, .inl m_law)), (a_of, .inl (cI, 26, .inl (upd o_10 (3 : Int32).toNatClampNeg ((o_10 (3 : Int32).toNatClampNeg) ||| ((1 : Int32) <<< (v9 &&& 31))))))] H := hP
          have hD : va_D A [(ax, .inr (8, [.int m_letterMany, .ref a_text, .int m_readAt, .ref a_told, .ref a_readLaw, .ref a_readNow, .ref a_law, .ref a_now, .ref a_tried, .int m_undoMany, .int m_undoAt, .ref a_undos, .int m_seenMany, .ref a_seenHour, .ref a_seenAt, .ref a_parts, .ref a_partsThen, .int m_keptMany, .ref a_kept])), (a_law, .inl (cI, 22, .inl m_law)), (a_of, .inl (cI, 26, .inl (upd o_10 (3 : Int32).toNatClampNeg ((o_10 (3 : Int32).toNatClampNeg) ||| ((1 : Int32) <<< (v9 &&& 31))))))] := hD
          refine lv_iinc (v := (v9 + (1 : Int32))) (lv' := [(2, .int (v9 + (1 : Int32))), (0, .ref ax), (1, .ref a_of)]) hx hb dX8_goes_84 hl (k := 0) rfl (by first | rfl | decide) (by decide) rfl (fun ls hl => ?_)
          refine lv_goto (tgt := 53) hx hb dX8_goes_87 (by decide) ?_
          exact ih53 (v9 + (1 : Int32)) (upd o_10 (3 : Int32).toNatClampNeg ((o_10 (3 : Int32).toNatClampNeg) ||| ((1 : Int32) <<< (v9 &&& 31)))) _ _ hP hD hS _ (lv_sub hl [0, 1, 2] rfl) hF
        · have hF := op_neg c14 hF
          refine lv_iconst (v := (0 : Int32)) hx hb dX8_goes_75 (by decide) ?_
          refine lv_goto (tgt := 82) hx hb dX8_goes_76 (by decide) ?_
          refine lv_ior hx hb dX8_goes_82 ?_
          refine va_iast hx hb hK hP hD hS 2 0 rfl rfl (okb_in (by decide)) dX8_goes_83 (fun H locs hP hD hS => ?_)
          have hP : va_P D vwCl [(ax, .inr (8, [.int m_letterMany, .ref a_text, .int m_readAt, .ref a_told, .ref a_readLaw, .ref a_readNow, .ref a_law, .ref a_now, .ref a_tried, .int m_undoMany, .int m_undoAt, .ref a_undos, .int m_seenMany, .ref a_seenHour, .ref a_seenAt, .ref a_parts, .ref a_partsThen, .int m_keptMany, .ref a_kept])), (a_law, .inl (cI, 22, .inl m_law)), (a_of, .inl (cI, 26, .inl (upd o_10 (3 : Int32).toNatClampNeg ((o_10 (3 : Int32).toNatClampNeg) ||| (0 : Int32)))))] H := hP
          have hD : va_D A [(ax, .inr (8, [.int m_letterMany, .ref a_text, .int m_readAt, .ref a_told, .ref a_readLaw, .ref a_readNow, .ref a_law, .ref a_now, .ref a_tried, .int m_undoMany, .int m_undoAt, .ref a_undos, .int m_seenMany, .ref a_seenHour, .ref a_seenAt, .ref a_parts, .ref a_partsThen, .int m_keptMany, .ref a_kept])), (a_law, .inl (cI, 22, .inl m_law)), (a_of, .inl (cI, 26, .inl (upd o_10 (3 : Int32).toNatClampNeg ((o_10 (3 : Int32).toNatClampNeg) ||| (0 : Int32)))))] := hD
          refine lv_iinc (v := (v9 + (1 : Int32))) (lv' := [(2, .int (v9 + (1 : Int32))), (0, .ref ax), (1, .ref a_of)]) hx hb dX8_goes_84 hl (k := 0) rfl (by first | rfl | decide) (by decide) rfl (fun ls hl => ?_)
          refine lv_goto (tgt := 53) hx hb dX8_goes_87 (by decide) ?_
          exact ih53 (v9 + (1 : Int32)) (upd o_10 (3 : Int32).toNatClampNeg ((o_10 (3 : Int32).toNatClampNeg) ||| (0 : Int32))) _ _ hP hD hS _ (lv_sub hl [0, 1, 2] rfl) hF
  refine hL53 _ (fun v9 o_10 H locs hP hD hS ls hl hF => ?_) 20000 (0 : Int32) (upd o_2 (1 : Int32).toNatClampNeg ((o_2 (1 : Int32).toNatClampNeg) + r7)) _ _ hP hD hS _ (lv_sub hl [0, 1, 2] rfl) hF
  refine lv_iconst (v := (0 : Int32)) hx hb dX8_goes_90 (by decide) ?_
  refine lv_istore_n (lv' := [(2, .int (0 : Int32)), (0, .ref ax), (1, .ref a_of)]) hx hb dX8_goes_91 rfl hl (by decide) rfl (fun ls hl => ?_)
  have hL92 : ∀ (k92 : Int32 → (Nat → Int32) → Option (Nat → Int32)), (∀ (v15 : Int32) (o_16 : (Nat → Int32)) (H : Heap) (locs : List Loc), va_P D vwCl [(ax, .inr (8, [.int m_letterMany, .ref a_text, .int m_readAt, .ref a_told, .ref a_readLaw, .ref a_readNow, .ref a_law, .ref a_now, .ref a_tried, .int m_undoMany, .int m_undoAt, .ref a_undos, .int m_seenMany, .ref a_seenHour, .ref a_seenAt, .ref a_parts, .ref a_partsThen, .int m_keptMany, .ref a_kept])), (a_law, .inl (cI, 22, .inl m_law)), (a_of, .inl (cI, 26, .inl o_16))] H → va_D A [(ax, .inr (8, [.int m_letterMany, .ref a_text, .int m_readAt, .ref a_told, .ref a_readLaw, .ref a_readNow, .ref a_law, .ref a_now, .ref a_tried, .int m_undoMany, .int m_undoAt, .ref a_undos, .int m_seenMany, .ref a_seenHour, .ref a_seenAt, .ref a_parts, .ref a_partsThen, .int m_keptMany, .ref a_kept])), (a_law, .inl (cI, 22, .inl m_law)), (a_of, .inl (cI, 26, .inl o_16))] → va_S A s.heap H locs → ∀ ls : Array Slot, lv_has ls 4 [(1, .ref a_of)] → k92 v15 o_16 = some o' → W p l e rm_X8_goes s m args below meth c H locs 0 0 Q (F0 m 173 ls [])) → ∀ (nf92 : Nat) (v15 : Int32) (o_16 : (Nat → Int32)) (H : Heap) (locs : List Loc), va_P D vwCl [(ax, .inr (8, [.int m_letterMany, .ref a_text, .int m_readAt, .ref a_told, .ref a_readLaw, .ref a_readNow, .ref a_law, .ref a_now, .ref a_tried, .int m_undoMany, .int m_undoAt, .ref a_undos, .int m_seenMany, .ref a_seenHour, .ref a_seenAt, .ref a_parts, .ref a_partsThen, .int m_keptMany, .ref a_kept])), (a_law, .inl (cI, 22, .inl m_law)), (a_of, .inl (cI, 26, .inl o_16))] H → va_D A [(ax, .inr (8, [.int m_letterMany, .ref a_text, .int m_readAt, .ref a_told, .ref a_readLaw, .ref a_readNow, .ref a_law, .ref a_now, .ref a_tried, .int m_undoMany, .int m_undoAt, .ref a_undos, .int m_seenMany, .ref a_seenHour, .ref a_seenAt, .ref a_parts, .ref a_partsThen, .int m_keptMany, .ref a_kept])), (a_law, .inl (cI, 22, .inl m_law)), (a_of, .inl (cI, 26, .inl o_16))] → va_S A s.heap H locs → ∀ ls : Array Slot, lv_has ls 4 [(2, .int v15), (0, .ref ax), (1, .ref a_of)] → f_X8_goes_L92 m_law k92 nf92 v15 o_16 = some o' → W p l e rm_X8_goes s m args below meth c H locs 0 0 Q (F0 m 92 ls []) := by
    intro k92 hk92 nf92
    induction nf92 with
    | zero =>
      intro v15 o_16 H locs hP hD hS ls hl hF
      rw [f_X8_goes_L92_0] at hF
      cases hF
    | succ nf92 ih92 =>
      intro v15 o_16 H locs hP hD hS ls hl hF
      rw [f_X8_goes_L92_s] at hF
      refine lv_iload_n hx hb dX8_goes_92 rfl (lv_at hl 0 rfl) ?_
      refine lv_aload_n hx hb dX8_goes_93 rfl (lv_at hl 1 rfl) ?_
      refine va_get (D := D) (ci := 8) (v := .ref a_law) (C := RX8) (T := TX8) (N := 19) hx hb hts iX8 hown hK hP 0 rfl rfl 6 (by decide) k_f22 (fun _ h9 => h9) rfl dX8_goes_94 ?_
      refine lv_iconst (v := (1 : Int32)) hx hb dX8_goes_97 (by decide) ?_
      refine va_iald hx hb hK hP 1 0 rfl rfl (okb_in (by decide)) dX8_goes_98 ?_
      refine lv_icmp_ge (tgt := 173) hx hb dX8_goes_99 (by decide) (fun c17 => ?_) (fun c17 => ?_)
      · have hF := op_pos c17 hF
        exact hk92 v15 o_16 _ _ hP hD hS _ (lv_sub hl [2] rfl) hF
      · have hF := op_neg c17 hF
        refine lv_aload_n hx hb dX8_goes_102 rfl (lv_at hl 1 rfl) ?_
        refine lv_aload_n hx hb dX8_goes_103 rfl (lv_at hl 2 rfl) ?_
        refine lv_iload_n hx hb dX8_goes_104 rfl (lv_at hl 0 rfl) ?_
        obtain ⟨r18, hb19, hF⟩ := op_bind hF
        refine xVr (As := [.ref a_of, .int v15]) (rest := []) hC hP hD hS [0, 1, 2] (c_X8_under l D cI cC cM ax a_law a_of a_text a_told a_readLaw a_readNow a_now a_tried a_undos a_seenHour a_seenAt a_parts a_partsThen a_kept m_letterMany m_readAt m_undoMany m_undoAt m_seenMany m_keptMany m_law o_16 v15 r18 hb19) (cwV 2 hts gX8_goes_X8_under rfl rfl rfl ⟨rfl, pd_X8_under⟩ ⟨Nat.le_of_ble_eq_true rfl, Nat.le_of_ble_eq_true rfl⟩) rfl rfl 0 8 rfl rfl rfl rfl hl.1 rfl (Nat.le_of_ble_eq_true rfl) dX8_goes_105 ⟨Nat.zero_le _, Nat.zero_le _⟩ (fun H locs hP hS => ?_)
        refine lv_if_eq (tgt := 167) hx hb dX8_goes_108 (by decide) (fun c20 => ?_) (fun c20 => ?_)
        · have hF := op_pos c20 hF
          refine lv_iinc (v := (v15 + (1 : Int32))) (lv' := [(2, .int (v15 + (1 : Int32))), (0, .ref ax), (1, .ref a_of)]) hx hb dX8_goes_167 hl (k := 0) rfl (by first | rfl | decide) (by decide) rfl (fun ls hl => ?_)
          refine lv_goto (tgt := 92) hx hb dX8_goes_170 (by decide) ?_
          exact ih92 (v15 + (1 : Int32)) o_16 _ _ hP hD hS _ (lv_sub hl [0, 1, 2] rfl) hF
        · have hF := op_neg c20 hF
          refine lv_aload_n hx hb dX8_goes_111 rfl (lv_at hl 2 rfl) ?_
          refine lv_iconst (v := (4 : Int32)) hx hb dX8_goes_112 (by decide) ?_
          refine lv_iload_n hx hb dX8_goes_113 rfl (lv_at hl 0 rfl) ?_
          refine lv_iadd hx hb dX8_goes_114 ?_
          refine lv_aload_n hx hb dX8_goes_115 rfl (lv_at hl 2 rfl) ?_
          refine lv_iconst (v := (4 : Int32)) hx hb dX8_goes_116 (by decide) ?_
          refine lv_iload_n hx hb dX8_goes_117 rfl (lv_at hl 0 rfl) ?_
          refine lv_iadd hx hb dX8_goes_118 ?_
          obtain ⟨o21, hF⟩ := op_ob hF
          refine va_iald hx hb hK hP 2 0 rfl rfl (okb_in o21) dX8_goes_119 ?_
          refine lv_aload_n hx hb dX8_goes_120 rfl (lv_at hl 1 rfl) ?_
          refine lv_iload_n hx hb dX8_goes_121 rfl (lv_at hl 0 rfl) ?_
          refine lv_aload_n hx hb dX8_goes_122 rfl (lv_at hl 2 rfl) ?_
          refine lv_iconst (v := (0 : Int32)) hx hb dX8_goes_123 (by decide) ?_
          refine va_iald hx hb hK hP 2 0 rfl rfl (okb_in (by decide)) dX8_goes_124 ?_
          obtain ⟨r22, hb23, hF⟩ := op_bind hF
          refine xVr (As := [.int v15, .int (o_16 (0 : Int32).toNatClampNeg)]) (rest := [.int (o_16 ((4 : Int32) + v15).toNatClampNeg), .int ((4 : Int32) + v15), .ref a_of]) hC hP hD hS [0, 1] (c_X8_goesOn l D cI cC cM ax a_law a_text a_told a_readLaw a_readNow a_now a_tried a_undos a_seenHour a_seenAt a_parts a_partsThen a_kept m_letterMany m_readAt m_undoMany m_undoAt m_seenMany m_keptMany m_law v15 (o_16 (0 : Int32).toNatClampNeg) r22 hb23) (cwV 2 hts gX8_goes_X8_goesOn rfl rfl rfl ⟨rfl, pd_X8_goesOn⟩ ⟨Nat.le_of_ble_eq_true rfl, Nat.le_of_ble_eq_true rfl⟩) rfl rfl 0 8 rfl rfl rfl rfl hl.1 rfl (Nat.le_of_ble_eq_true rfl) dX8_goes_125 ⟨Nat.zero_le _, Nat.zero_le _⟩ (fun H locs hP hS => ?_)
          refine lv_iadd hx hb dX8_goes_128 ?_
          refine lv_bipush (v := (24 : Int32)) hx hb dX8_goes_129 (by decide) ?_
          refine lv_irem hx hb dX8_goes_131 (by decide) ?_
          refine va_iast hx hb hK hP hD hS 2 0 rfl rfl (okb_in o21) dX8_goes_132 (fun H locs hP hD hS => ?_)
          have hP : va_P D vwCl [(ax, .inr (8, [.int m_letterMany, .ref a_text, .int m_readAt, .ref a_told, .ref a_readLaw, .ref a_readNow, .ref a_law, .ref a_now, .ref a_tried, .int m_undoMany, .int m_undoAt, .ref a_undos, .int m_seenMany, .ref a_seenHour, .ref a_seenAt, .ref a_parts, .ref a_partsThen, .int m_keptMany, .ref a_kept])), (a_law, .inl (cI, 22, .inl m_law)), (a_of, .inl (cI, 26, .inl (upd o_16 ((4 : Int32) + v15).toNatClampNeg (jrem ((o_16 ((4 : Int32) + v15).toNatClampNeg) + r22) (24 : Int32)))))] H := hP
          have hD : va_D A [(ax, .inr (8, [.int m_letterMany, .ref a_text, .int m_readAt, .ref a_told, .ref a_readLaw, .ref a_readNow, .ref a_law, .ref a_now, .ref a_tried, .int m_undoMany, .int m_undoAt, .ref a_undos, .int m_seenMany, .ref a_seenHour, .ref a_seenAt, .ref a_parts, .ref a_partsThen, .int m_keptMany, .ref a_kept])), (a_law, .inl (cI, 22, .inl m_law)), (a_of, .inl (cI, 26, .inl (upd o_16 ((4 : Int32) + v15).toNatClampNeg (jrem ((o_16 ((4 : Int32) + v15).toNatClampNeg) + r22) (24 : Int32)))))] := hD
          refine lv_aload_n hx hb dX8_goes_133 rfl (lv_at hl 2 rfl) ?_
          refine lv_bipush (v := (10 : Int32)) hx hb dX8_goes_134 (by decide) ?_
          refine lv_iload_n hx hb dX8_goes_136 rfl (lv_at hl 0 rfl) ?_
          refine lv_iadd hx hb dX8_goes_137 ?_
          obtain ⟨o24, hF⟩ := op_ob hF
          refine va_iald hx hb hK hP 2 0 rfl rfl (okb_in o24) dX8_goes_138 ?_
          refine lv_aload_n hx hb dX8_goes_139 rfl (lv_at hl 1 rfl) ?_
          refine lv_iload_n hx hb dX8_goes_140 rfl (lv_at hl 0 rfl) ?_
          refine lv_aload_n hx hb dX8_goes_141 rfl (lv_at hl 2 rfl) ?_
          refine lv_iconst (v := (0 : Int32)) hx hb dX8_goes_142 (by decide) ?_
          refine va_iald hx hb hK hP 2 0 rfl rfl (okb_in (by decide)) dX8_goes_143 ?_
          obtain ⟨r25, hb26, hF⟩ := op_bind hF
          refine xVr (As := [.int v15, .int ((upd o_16 ((4 : Int32) + v15).toNatClampNeg (jrem ((o_16 ((4 : Int32) + v15).toNatClampNeg) + r22) (24 : Int32))) (0 : Int32).toNatClampNeg)]) (rest := [.int ((upd o_16 ((4 : Int32) + v15).toNatClampNeg (jrem ((o_16 ((4 : Int32) + v15).toNatClampNeg) + r22) (24 : Int32))) ((10 : Int32) + v15).toNatClampNeg)]) hC hP hD hS [0, 1] (c_X8_wears l D cI cC cM ax a_law a_text a_told a_readLaw a_readNow a_now a_tried a_undos a_seenHour a_seenAt a_parts a_partsThen a_kept m_letterMany m_readAt m_undoMany m_undoAt m_seenMany m_keptMany m_law v15 ((upd o_16 ((4 : Int32) + v15).toNatClampNeg (jrem ((o_16 ((4 : Int32) + v15).toNatClampNeg) + r22) (24 : Int32))) (0 : Int32).toNatClampNeg) r25 hb26) (cwV 2 hts gX8_goes_X8_wears rfl rfl rfl ⟨rfl, pd_X8_wears⟩ ⟨Nat.le_of_ble_eq_true rfl, Nat.le_of_ble_eq_true rfl⟩) rfl rfl 0 8 rfl rfl rfl rfl hl.1 rfl (Nat.le_of_ble_eq_true rfl) dX8_goes_144 ⟨Nat.zero_le _, Nat.zero_le _⟩ (fun H locs hP hS => ?_)
          refine lv_iadd hx hb dX8_goes_147 ?_
          refine lv_istore_n (lv' := [(3, .int (((upd o_16 ((4 : Int32) + v15).toNatClampNeg (jrem ((o_16 ((4 : Int32) + v15).toNatClampNeg) + r22) (24 : Int32))) ((10 : Int32) + v15).toNatClampNeg) + r25)), (2, .int v15), (0, .ref ax), (1, .ref a_of)]) hx hb dX8_goes_148 rfl hl (by decide) rfl (fun ls hl => ?_)
          refine lv_aload_n hx hb dX8_goes_149 rfl (lv_at hl 3 rfl) ?_
          refine lv_bipush (v := (10 : Int32)) hx hb dX8_goes_150 (by decide) ?_
          refine lv_iload_n hx hb dX8_goes_152 rfl (lv_at hl 1 rfl) ?_
          refine lv_iadd hx hb dX8_goes_153 ?_
          refine lv_iload_n hx hb dX8_goes_154 rfl (lv_at hl 0 rfl) ?_
          refine lv_bipush (v := (20 : Int32)) hx hb dX8_goes_155 (by decide) ?_
          refine lv_icmp_le (tgt := 165) hx hb dX8_goes_157 (by decide) (fun c27 => ?_) (fun c27 => ?_)
          · have hF := op_pos c27 hF
            refine lv_iload_n hx hb dX8_goes_165 rfl (lv_at hl 0 rfl) ?_
            refine va_iast hx hb hK hP hD hS 2 0 rfl rfl (okb_in o24) dX8_goes_166 (fun H locs hP hD hS => ?_)
            have hP : va_P D vwCl [(ax, .inr (8, [.int m_letterMany, .ref a_text, .int m_readAt, .ref a_told, .ref a_readLaw, .ref a_readNow, .ref a_law, .ref a_now, .ref a_tried, .int m_undoMany, .int m_undoAt, .ref a_undos, .int m_seenMany, .ref a_seenHour, .ref a_seenAt, .ref a_parts, .ref a_partsThen, .int m_keptMany, .ref a_kept])), (a_law, .inl (cI, 22, .inl m_law)), (a_of, .inl (cI, 26, .inl (upd (upd o_16 ((4 : Int32) + v15).toNatClampNeg (jrem ((o_16 ((4 : Int32) + v15).toNatClampNeg) + r22) (24 : Int32))) ((10 : Int32) + v15).toNatClampNeg (((upd o_16 ((4 : Int32) + v15).toNatClampNeg (jrem ((o_16 ((4 : Int32) + v15).toNatClampNeg) + r22) (24 : Int32))) ((10 : Int32) + v15).toNatClampNeg) + r25))))] H := hP
            have hD : va_D A [(ax, .inr (8, [.int m_letterMany, .ref a_text, .int m_readAt, .ref a_told, .ref a_readLaw, .ref a_readNow, .ref a_law, .ref a_now, .ref a_tried, .int m_undoMany, .int m_undoAt, .ref a_undos, .int m_seenMany, .ref a_seenHour, .ref a_seenAt, .ref a_parts, .ref a_partsThen, .int m_keptMany, .ref a_kept])), (a_law, .inl (cI, 22, .inl m_law)), (a_of, .inl (cI, 26, .inl (upd (upd o_16 ((4 : Int32) + v15).toNatClampNeg (jrem ((o_16 ((4 : Int32) + v15).toNatClampNeg) + r22) (24 : Int32))) ((10 : Int32) + v15).toNatClampNeg (((upd o_16 ((4 : Int32) + v15).toNatClampNeg (jrem ((o_16 ((4 : Int32) + v15).toNatClampNeg) + r22) (24 : Int32))) ((10 : Int32) + v15).toNatClampNeg) + r25))))] := hD
            refine lv_iinc (v := (v15 + (1 : Int32))) (lv' := [(2, .int (v15 + (1 : Int32))), (3, .int (((upd o_16 ((4 : Int32) + v15).toNatClampNeg (jrem ((o_16 ((4 : Int32) + v15).toNatClampNeg) + r22) (24 : Int32))) ((10 : Int32) + v15).toNatClampNeg) + r25)), (0, .ref ax), (1, .ref a_of)]) hx hb dX8_goes_167 hl (k := 1) rfl (by first | rfl | decide) (by decide) rfl (fun ls hl => ?_)
            refine lv_goto (tgt := 92) hx hb dX8_goes_170 (by decide) ?_
            exact ih92 (v15 + (1 : Int32)) (upd (upd o_16 ((4 : Int32) + v15).toNatClampNeg (jrem ((o_16 ((4 : Int32) + v15).toNatClampNeg) + r22) (24 : Int32))) ((10 : Int32) + v15).toNatClampNeg (((upd o_16 ((4 : Int32) + v15).toNatClampNeg (jrem ((o_16 ((4 : Int32) + v15).toNatClampNeg) + r22) (24 : Int32))) ((10 : Int32) + v15).toNatClampNeg) + r25)) _ _ hP hD hS _ (lv_sub hl [0, 2, 3] rfl) hF
          · have hF := op_neg c27 hF
            refine lv_bipush (v := (20 : Int32)) hx hb dX8_goes_160 (by decide) ?_
            refine lv_goto (tgt := 166) hx hb dX8_goes_162 (by decide) ?_
            refine va_iast hx hb hK hP hD hS 2 0 rfl rfl (okb_in o24) dX8_goes_166 (fun H locs hP hD hS => ?_)
            have hP : va_P D vwCl [(ax, .inr (8, [.int m_letterMany, .ref a_text, .int m_readAt, .ref a_told, .ref a_readLaw, .ref a_readNow, .ref a_law, .ref a_now, .ref a_tried, .int m_undoMany, .int m_undoAt, .ref a_undos, .int m_seenMany, .ref a_seenHour, .ref a_seenAt, .ref a_parts, .ref a_partsThen, .int m_keptMany, .ref a_kept])), (a_law, .inl (cI, 22, .inl m_law)), (a_of, .inl (cI, 26, .inl (upd (upd o_16 ((4 : Int32) + v15).toNatClampNeg (jrem ((o_16 ((4 : Int32) + v15).toNatClampNeg) + r22) (24 : Int32))) ((10 : Int32) + v15).toNatClampNeg (20 : Int32))))] H := hP
            have hD : va_D A [(ax, .inr (8, [.int m_letterMany, .ref a_text, .int m_readAt, .ref a_told, .ref a_readLaw, .ref a_readNow, .ref a_law, .ref a_now, .ref a_tried, .int m_undoMany, .int m_undoAt, .ref a_undos, .int m_seenMany, .ref a_seenHour, .ref a_seenAt, .ref a_parts, .ref a_partsThen, .int m_keptMany, .ref a_kept])), (a_law, .inl (cI, 22, .inl m_law)), (a_of, .inl (cI, 26, .inl (upd (upd o_16 ((4 : Int32) + v15).toNatClampNeg (jrem ((o_16 ((4 : Int32) + v15).toNatClampNeg) + r22) (24 : Int32))) ((10 : Int32) + v15).toNatClampNeg (20 : Int32))))] := hD
            refine lv_iinc (v := (v15 + (1 : Int32))) (lv' := [(2, .int (v15 + (1 : Int32))), (3, .int (((upd o_16 ((4 : Int32) + v15).toNatClampNeg (jrem ((o_16 ((4 : Int32) + v15).toNatClampNeg) + r22) (24 : Int32))) ((10 : Int32) + v15).toNatClampNeg) + r25)), (0, .ref ax), (1, .ref a_of)]) hx hb dX8_goes_167 hl (k := 1) rfl (by first | rfl | decide) (by decide) rfl (fun ls hl => ?_)
            refine lv_goto (tgt := 92) hx hb dX8_goes_170 (by decide) ?_
            exact ih92 (v15 + (1 : Int32)) (upd (upd o_16 ((4 : Int32) + v15).toNatClampNeg (jrem ((o_16 ((4 : Int32) + v15).toNatClampNeg) + r22) (24 : Int32))) ((10 : Int32) + v15).toNatClampNeg (20 : Int32)) _ _ hP hD hS _ (lv_sub hl [0, 2, 3] rfl) hF
  refine hL92 _ (fun v15 o_16 H locs hP hD hS ls hl hF => ?_) 20000 (0 : Int32) o_10 _ _ hP hD hS _ (lv_sub hl [0, 1, 2] rfl) hF
  refine lv_aload_n hx hb dX8_goes_173 rfl (lv_at hl 0 rfl) ?_
  refine lv_iconst (v := (0 : Int32)) hx hb dX8_goes_174 (by decide) ?_
  refine lv_dup2_11 hx hb dX8_goes_175 rfl rfl ?_
  refine va_iald hx hb hK hP 2 0 rfl rfl (okb_in (by decide)) dX8_goes_176 ?_
  refine lv_iconst (v := (1 : Int32)) hx hb dX8_goes_177 (by decide) ?_
  refine lv_iadd hx hb dX8_goes_178 ?_
  refine va_iast hx hb hK hP hD hS 2 0 rfl rfl (okb_in (by decide)) dX8_goes_179 (fun H locs hP hD hS => ?_)
  have hP : va_P D vwCl [(ax, .inr (8, [.int m_letterMany, .ref a_text, .int m_readAt, .ref a_told, .ref a_readLaw, .ref a_readNow, .ref a_law, .ref a_now, .ref a_tried, .int m_undoMany, .int m_undoAt, .ref a_undos, .int m_seenMany, .ref a_seenHour, .ref a_seenAt, .ref a_parts, .ref a_partsThen, .int m_keptMany, .ref a_kept])), (a_law, .inl (cI, 22, .inl m_law)), (a_of, .inl (cI, 26, .inl (upd o_16 (0 : Int32).toNatClampNeg ((o_16 (0 : Int32).toNatClampNeg) + (1 : Int32)))))] H := hP
  have hD : va_D A [(ax, .inr (8, [.int m_letterMany, .ref a_text, .int m_readAt, .ref a_told, .ref a_readLaw, .ref a_readNow, .ref a_law, .ref a_now, .ref a_tried, .int m_undoMany, .int m_undoAt, .ref a_undos, .int m_seenMany, .ref a_seenHour, .ref a_seenAt, .ref a_parts, .ref a_partsThen, .int m_keptMany, .ref a_kept])), (a_law, .inl (cI, 22, .inl m_law)), (a_of, .inl (cI, 26, .inl (upd o_16 (0 : Int32).toNatClampNeg ((o_16 (0 : Int32).toNatClampNeg) + (1 : Int32)))))] := hD
  cases hF
  rw [hQ]
  exact xrv hC hP hS dX8_goes_180

def f_X8_remember_L2 (m_undoAt : Int32) (m_tried : (Nat → Int32)) (k2 : Int32 → (Nat → Int32) → Option (Int32 × Int32 × (Nat → Int32))) : Nat → Int32 → (Nat → Int32) → Option (Int32 × Int32 × (Nat → Int32))
  | 0, _, _ => none
  | nf2 + 1, v1, m_undos_2 => (if (26 : Int32) ≤ v1 then (k2 v1 m_undos_2) else (if okb v1 26 = true then (if okb (((26 : Int32) * m_undoAt) + v1) 208 = true then (f_X8_remember_L2 m_undoAt m_tried k2 nf2 (v1 + (1 : Int32)) (upd m_undos_2 (((26 : Int32) * m_undoAt) + v1).toNatClampNeg (m_tried v1.toNatClampNeg))) else none) else none))
theorem f_X8_remember_L2_0 (m_undoAt : Int32) (m_tried : (Nat → Int32)) (k2 : Int32 → (Nat → Int32) → Option (Int32 × Int32 × (Nat → Int32))) (v1 : Int32) (m_undos_2 : (Nat → Int32)) : f_X8_remember_L2 m_undoAt m_tried k2 0 v1 m_undos_2 = none := rfl
theorem f_X8_remember_L2_s (m_undoAt : Int32) (m_tried : (Nat → Int32)) (k2 : Int32 → (Nat → Int32) → Option (Int32 × Int32 × (Nat → Int32))) (nf2 : Nat) (v1 : Int32) (m_undos_2 : (Nat → Int32)) : f_X8_remember_L2 m_undoAt m_tried k2 (nf2 + 1) v1 m_undos_2 = (if (26 : Int32) ≤ v1 then (k2 v1 m_undos_2) else (if okb v1 26 = true then (if okb (((26 : Int32) * m_undoAt) + v1) 208 = true then (f_X8_remember_L2 m_undoAt m_tried k2 nf2 (v1 + (1 : Int32)) (upd m_undos_2 (((26 : Int32) * m_undoAt) + v1).toNatClampNeg (m_tried v1.toNatClampNeg))) else none) else none)) := rfl

def f_X8_remember (m_undoMany : Int32) (m_undoAt : Int32) (m_tried : (Nat → Int32)) (m_undos : (Nat → Int32)) : Option (Int32 × Int32 × (Nat → Int32)) := (f_X8_remember_L2 m_undoAt m_tried (fun (v1 : Int32) (m_undos_2 : (Nat → Int32)) => (if (8 : Int32) ≤ m_undoMany then (some ((m_undoMany + (0 : Int32)), (jrem (m_undoAt + (1 : Int32)) (8 : Int32)), m_undos_2)) else (some ((m_undoMany + (1 : Int32)), (jrem (m_undoAt + (1 : Int32)) (8 : Int32)), m_undos_2)))) 20000 (0 : Int32) m_undos)

def rm_X8_remember : Room := { frames := 0, cells := 0, slots := 0, locals := 0 }

theorem pd_X8_remember : yX8_remember.cls ≠ "java/lang/invoke/MethodHandle" ∧ yX8_remember.cls ≠ "java/lang/invoke/VarHandle" ∧ (parseMethodDescriptor yX8_remember.desc).map (fun d => d.parameters.length) = some 0 := by decide +kernel

set_option maxHeartbeats 4000000 in
set_option maxRecDepth 100000 in
theorem c_X8_remember (l : Launch) (D : va_G) (cI cC cM : ClassId) (ax a_tried a_undos a_text a_told a_readLaw a_readNow a_law a_now a_seenHour a_seenAt a_parts a_partsThen a_kept : Nat) (m_letterMany : Int32) (m_readAt : Int32) (m_undoMany : Int32) (m_undoAt : Int32) (m_seenMany : Int32) (m_keptMany : Int32) (m_tried : (Nat → Int32)) (m_undos : (Nat → Int32)) (m_undoMany' : Int32) (m_undoAt' : Int32) (m_undos' : (Nat → Int32)) (hF : f_X8_remember m_undoMany m_undoAt m_tried m_undos = some (m_undoMany', m_undoAt', m_undos')) : CV l D cI cC cM yX8_remember wsX8_remember rm_X8_remember [.ref ax] [(ax, .inr (8, [.int m_letterMany, .ref a_text, .int m_readAt, .ref a_told, .ref a_readLaw, .ref a_readNow, .ref a_law, .ref a_now, .ref a_tried, .int m_undoMany, .int m_undoAt, .ref a_undos, .int m_seenMany, .ref a_seenHour, .ref a_seenAt, .ref a_parts, .ref a_partsThen, .int m_keptMany, .ref a_kept])), (a_tried, .inl (cI, 26, .inl m_tried)), (a_undos, .inl (cI, 208, .inl m_undos))] [(ax, .inr (8, [.int m_letterMany, .ref a_text, .int m_readAt, .ref a_told, .ref a_readLaw, .ref a_readNow, .ref a_law, .ref a_now, .ref a_tried, .int m_undoMany', .int m_undoAt', .ref a_undos, .int m_seenMany, .ref a_seenHour, .ref a_seenAt, .ref a_parts, .ref a_partsThen, .int m_keptMany, .ref a_kept])), (a_tried, .inl (cI, 26, .inl m_tried)), (a_undos, .inl (cI, 208, .inl m_undos'))] := by
  refine CV.of (cc := cX8_remember) (nL := 2) (ret := none) (by decide) rfl (Nat.le_of_ble_eq_true rfl) ?_
  intro p e s m args below meth c A hC hP hD hS ls hl
  obtain ⟨hx, hb, hml, hown, hts, hr, hlk, hG, hA⟩ := id hC
  have hown : s.vm.findClass RX8 = some m.cls := hown
  have hK := hG.1
  have hl : lv_has ls 2 [(0, .ref ax)] := hl
  have k_f31 := hts (.fieldLink RX8 31 "ParasolHoursModel" "undos" "[I") (List.mem_of_getElem? (i := 1) rfl)
  have k_f156 := hts (.fieldLink RX8 156 "ParasolHoursModel" "undoAt" "I") (List.mem_of_getElem? (i := 2) rfl)
  have k_f28 := hts (.fieldLink RX8 28 "ParasolHoursModel" "tried" "[I") (List.mem_of_getElem? (i := 3) rfl)
  have k_f99 := hts (.fieldLink RX8 99 "ParasolHoursModel" "undoMany" "I") (List.mem_of_getElem? (i := 4) rfl)
  have iX8 : ∀ w ∈ wsX80, w ∈ wsX8_remember := by decide +kernel
  obtain ⟨Q, hQ⟩ : ∃ Q, Q = MQ below (QV D [(ax, .inr (8, [.int m_letterMany, .ref a_text, .int m_readAt, .ref a_told, .ref a_readLaw, .ref a_readNow, .ref a_law, .ref a_now, .ref a_tried, .int m_undoMany', .int m_undoAt', .ref a_undos, .int m_seenMany, .ref a_seenHour, .ref a_seenAt, .ref a_parts, .ref a_partsThen, .int m_keptMany, .ref a_kept])), (a_tried, .inl (cI, 26, .inl m_tried)), (a_undos, .inl (cI, 208, .inl m_undos'))] A) args s 0 0 A := ⟨_, rfl⟩
  rw [← hQ]
  unfold f_X8_remember at hF
  refine lv_iconst (v := (0 : Int32)) hx hb dX8_remember_0 (by decide) ?_
  refine lv_istore_n (lv' := [(1, .int (0 : Int32)), (0, .ref ax)]) hx hb dX8_remember_1 rfl hl (by decide) rfl (fun ls hl => ?_)
  have hL2 : ∀ (k2 : Int32 → (Nat → Int32) → Option (Int32 × Int32 × (Nat → Int32))), (∀ (v1 : Int32) (m_undos_2 : (Nat → Int32)) (H : Heap) (locs : List Loc), va_P D vwCl [(ax, .inr (8, [.int m_letterMany, .ref a_text, .int m_readAt, .ref a_told, .ref a_readLaw, .ref a_readNow, .ref a_law, .ref a_now, .ref a_tried, .int m_undoMany, .int m_undoAt, .ref a_undos, .int m_seenMany, .ref a_seenHour, .ref a_seenAt, .ref a_parts, .ref a_partsThen, .int m_keptMany, .ref a_kept])), (a_tried, .inl (cI, 26, .inl m_tried)), (a_undos, .inl (cI, 208, .inl m_undos_2))] H → va_D A [(ax, .inr (8, [.int m_letterMany, .ref a_text, .int m_readAt, .ref a_told, .ref a_readLaw, .ref a_readNow, .ref a_law, .ref a_now, .ref a_tried, .int m_undoMany, .int m_undoAt, .ref a_undos, .int m_seenMany, .ref a_seenHour, .ref a_seenAt, .ref a_parts, .ref a_partsThen, .int m_keptMany, .ref a_kept])), (a_tried, .inl (cI, 26, .inl m_tried)), (a_undos, .inl (cI, 208, .inl m_undos_2))] → va_S A s.heap H locs → ∀ ls : Array Slot, lv_has ls 2 [(0, .ref ax)] → k2 v1 m_undos_2 = some (m_undoMany', m_undoAt', m_undos') → W p l e rm_X8_remember s m args below meth c H locs 0 0 Q (F0 m 34 ls [])) → ∀ (nf2 : Nat) (v1 : Int32) (m_undos_2 : (Nat → Int32)) (H : Heap) (locs : List Loc), va_P D vwCl [(ax, .inr (8, [.int m_letterMany, .ref a_text, .int m_readAt, .ref a_told, .ref a_readLaw, .ref a_readNow, .ref a_law, .ref a_now, .ref a_tried, .int m_undoMany, .int m_undoAt, .ref a_undos, .int m_seenMany, .ref a_seenHour, .ref a_seenAt, .ref a_parts, .ref a_partsThen, .int m_keptMany, .ref a_kept])), (a_tried, .inl (cI, 26, .inl m_tried)), (a_undos, .inl (cI, 208, .inl m_undos_2))] H → va_D A [(ax, .inr (8, [.int m_letterMany, .ref a_text, .int m_readAt, .ref a_told, .ref a_readLaw, .ref a_readNow, .ref a_law, .ref a_now, .ref a_tried, .int m_undoMany, .int m_undoAt, .ref a_undos, .int m_seenMany, .ref a_seenHour, .ref a_seenAt, .ref a_parts, .ref a_partsThen, .int m_keptMany, .ref a_kept])), (a_tried, .inl (cI, 26, .inl m_tried)), (a_undos, .inl (cI, 208, .inl m_undos_2))] → va_S A s.heap H locs → ∀ ls : Array Slot, lv_has ls 2 [(1, .int v1), (0, .ref ax)] → f_X8_remember_L2 m_undoAt m_tried k2 nf2 v1 m_undos_2 = some (m_undoMany', m_undoAt', m_undos') → W p l e rm_X8_remember s m args below meth c H locs 0 0 Q (F0 m 2 ls []) := by
    intro k2 hk2 nf2
    induction nf2 with
    | zero =>
      intro v1 m_undos_2 H locs hP hD hS ls hl hF
      rw [f_X8_remember_L2_0] at hF
      cases hF
    | succ nf2 ih2 =>
      intro v1 m_undos_2 H locs hP hD hS ls hl hF
      rw [f_X8_remember_L2_s] at hF
      refine lv_iload_n hx hb dX8_remember_2 rfl (lv_at hl 0 rfl) ?_
      refine lv_bipush (v := (26 : Int32)) hx hb dX8_remember_3 (by decide) ?_
      refine lv_icmp_ge (tgt := 34) hx hb dX8_remember_5 (by decide) (fun c3 => ?_) (fun c3 => ?_)
      · have hF := op_pos c3 hF
        exact hk2 v1 m_undos_2 _ _ hP hD hS _ (lv_sub hl [1] rfl) hF
      · have hF := op_neg c3 hF
        refine lv_aload_n hx hb dX8_remember_8 rfl (lv_at hl 1 rfl) ?_
        refine va_get (D := D) (ci := 8) (v := .ref a_undos) (C := RX8) (T := TX8) (N := 19) hx hb hts iX8 hown hK hP 0 rfl rfl 11 (by decide) k_f31 (fun _ h9 => h9) rfl dX8_remember_9 ?_
        refine lv_bipush (v := (26 : Int32)) hx hb dX8_remember_12 (by decide) ?_
        refine lv_aload_n hx hb dX8_remember_14 rfl (lv_at hl 1 rfl) ?_
        refine va_get (D := D) (ci := 8) (v := .int m_undoAt) (C := RX8) (T := TX8) (N := 19) hx hb hts iX8 hown hK hP 0 rfl rfl 10 (by decide) k_f156 (fun _ h9 => h9) rfl dX8_remember_15 ?_
        refine lv_imul hx hb dX8_remember_18 ?_
        refine lv_iload_n hx hb dX8_remember_19 rfl (lv_at hl 0 rfl) ?_
        refine lv_iadd hx hb dX8_remember_20 ?_
        refine lv_aload_n hx hb dX8_remember_21 rfl (lv_at hl 1 rfl) ?_
        refine va_get (D := D) (ci := 8) (v := .ref a_tried) (C := RX8) (T := TX8) (N := 19) hx hb hts iX8 hown hK hP 0 rfl rfl 8 (by decide) k_f28 (fun _ h9 => h9) rfl dX8_remember_22 ?_
        refine lv_iload_n hx hb dX8_remember_25 rfl (lv_at hl 0 rfl) ?_
        obtain ⟨o4, hF⟩ := op_ob hF
        refine va_iald hx hb hK hP 1 0 rfl rfl (okb_in o4) dX8_remember_26 ?_
        obtain ⟨o5, hF⟩ := op_ob hF
        refine va_iast hx hb hK hP hD hS 2 0 rfl rfl (okb_in o5) dX8_remember_27 (fun H locs hP hD hS => ?_)
        have hP : va_P D vwCl [(ax, .inr (8, [.int m_letterMany, .ref a_text, .int m_readAt, .ref a_told, .ref a_readLaw, .ref a_readNow, .ref a_law, .ref a_now, .ref a_tried, .int m_undoMany, .int m_undoAt, .ref a_undos, .int m_seenMany, .ref a_seenHour, .ref a_seenAt, .ref a_parts, .ref a_partsThen, .int m_keptMany, .ref a_kept])), (a_tried, .inl (cI, 26, .inl m_tried)), (a_undos, .inl (cI, 208, .inl (upd m_undos_2 (((26 : Int32) * m_undoAt) + v1).toNatClampNeg (m_tried v1.toNatClampNeg))))] H := hP
        have hD : va_D A [(ax, .inr (8, [.int m_letterMany, .ref a_text, .int m_readAt, .ref a_told, .ref a_readLaw, .ref a_readNow, .ref a_law, .ref a_now, .ref a_tried, .int m_undoMany, .int m_undoAt, .ref a_undos, .int m_seenMany, .ref a_seenHour, .ref a_seenAt, .ref a_parts, .ref a_partsThen, .int m_keptMany, .ref a_kept])), (a_tried, .inl (cI, 26, .inl m_tried)), (a_undos, .inl (cI, 208, .inl (upd m_undos_2 (((26 : Int32) * m_undoAt) + v1).toNatClampNeg (m_tried v1.toNatClampNeg))))] := hD
        refine lv_iinc (v := (v1 + (1 : Int32))) (lv' := [(1, .int (v1 + (1 : Int32))), (0, .ref ax)]) hx hb dX8_remember_28 hl (k := 0) rfl (by first | rfl | decide) (by decide) rfl (fun ls hl => ?_)
        refine lv_goto (tgt := 2) hx hb dX8_remember_31 (by decide) ?_
        exact ih2 (v1 + (1 : Int32)) (upd m_undos_2 (((26 : Int32) * m_undoAt) + v1).toNatClampNeg (m_tried v1.toNatClampNeg)) _ _ hP hD hS _ (lv_sub hl [0, 1] rfl) hF
  refine hL2 _ (fun v1 m_undos_2 H locs hP hD hS ls hl hF => ?_) 20000 (0 : Int32) m_undos _ _ hP hD hS _ (lv_sub hl [0, 1] rfl) hF
  refine lv_aload_n hx hb dX8_remember_34 rfl (lv_at hl 0 rfl) ?_
  refine lv_aload_n hx hb dX8_remember_35 rfl (lv_at hl 0 rfl) ?_
  refine va_get (D := D) (ci := 8) (v := .int m_undoAt) (C := RX8) (T := TX8) (N := 19) hx hb hts iX8 hown hK hP 0 rfl rfl 10 (by decide) k_f156 (fun _ h9 => h9) rfl dX8_remember_36 ?_
  refine lv_iconst (v := (1 : Int32)) hx hb dX8_remember_39 (by decide) ?_
  refine lv_iadd hx hb dX8_remember_40 ?_
  refine lv_bipush (v := (8 : Int32)) hx hb dX8_remember_41 (by decide) ?_
  refine lv_irem hx hb dX8_remember_43 (by decide) ?_
  refine va_put (D := D) (ci := 8) (v := .int (jrem (m_undoAt + (1 : Int32)) (8 : Int32))) (ty := .int) (C := RX8) (T := TX8) (N := 19) hx hb hts iX8 tyX8 tyX8_ok nmX8 hown hK hP hD hS 0 rfl rfl 10 (by decide) k_f156 (fun _ h9 => h9) rfl (by decide +kernel) rfl rfl (Nat.le_of_ble_eq_true rfl) dX8_remember_44 (fun H locs hP hD hS => ?_)
  have hP : va_P D vwCl [(ax, .inr (8, [.int m_letterMany, .ref a_text, .int m_readAt, .ref a_told, .ref a_readLaw, .ref a_readNow, .ref a_law, .ref a_now, .ref a_tried, .int m_undoMany, .int (jrem (m_undoAt + (1 : Int32)) (8 : Int32)), .ref a_undos, .int m_seenMany, .ref a_seenHour, .ref a_seenAt, .ref a_parts, .ref a_partsThen, .int m_keptMany, .ref a_kept])), (a_tried, .inl (cI, 26, .inl m_tried)), (a_undos, .inl (cI, 208, .inl m_undos_2))] H := hP
  have hD : va_D A [(ax, .inr (8, [.int m_letterMany, .ref a_text, .int m_readAt, .ref a_told, .ref a_readLaw, .ref a_readNow, .ref a_law, .ref a_now, .ref a_tried, .int m_undoMany, .int (jrem (m_undoAt + (1 : Int32)) (8 : Int32)), .ref a_undos, .int m_seenMany, .ref a_seenHour, .ref a_seenAt, .ref a_parts, .ref a_partsThen, .int m_keptMany, .ref a_kept])), (a_tried, .inl (cI, 26, .inl m_tried)), (a_undos, .inl (cI, 208, .inl m_undos_2))] := hD
  refine lv_aload_n hx hb dX8_remember_47 rfl (lv_at hl 0 rfl) ?_
  refine lv_dup hx hb dX8_remember_48 rfl ?_
  refine va_get (D := D) (ci := 8) (v := .int m_undoMany) (C := RX8) (T := TX8) (N := 19) hx hb hts iX8 hown hK hP 0 rfl rfl 9 (by decide) k_f99 (fun _ h9 => h9) rfl dX8_remember_49 ?_
  refine lv_aload_n hx hb dX8_remember_52 rfl (lv_at hl 0 rfl) ?_
  refine va_get (D := D) (ci := 8) (v := .int m_undoMany) (C := RX8) (T := TX8) (N := 19) hx hb hts iX8 hown hK hP 0 rfl rfl 9 (by decide) k_f99 (fun _ h9 => h9) rfl dX8_remember_53 ?_
  refine lv_bipush (v := (8 : Int32)) hx hb dX8_remember_56 (by decide) ?_
  refine lv_icmp_ge (tgt := 65) hx hb dX8_remember_58 (by decide) (fun c6 => ?_) (fun c6 => ?_)
  · have hF := op_pos c6 hF
    refine lv_iconst (v := (0 : Int32)) hx hb dX8_remember_65 (by decide) ?_
    refine lv_iadd hx hb dX8_remember_66 ?_
    refine va_put (D := D) (ci := 8) (v := .int (m_undoMany + (0 : Int32))) (ty := .int) (C := RX8) (T := TX8) (N := 19) hx hb hts iX8 tyX8 tyX8_ok nmX8 hown hK hP hD hS 0 rfl rfl 9 (by decide) k_f99 (fun _ h9 => h9) rfl (by decide +kernel) rfl rfl (Nat.le_of_ble_eq_true rfl) dX8_remember_67 (fun H locs hP hD hS => ?_)
    have hP : va_P D vwCl [(ax, .inr (8, [.int m_letterMany, .ref a_text, .int m_readAt, .ref a_told, .ref a_readLaw, .ref a_readNow, .ref a_law, .ref a_now, .ref a_tried, .int (m_undoMany + (0 : Int32)), .int (jrem (m_undoAt + (1 : Int32)) (8 : Int32)), .ref a_undos, .int m_seenMany, .ref a_seenHour, .ref a_seenAt, .ref a_parts, .ref a_partsThen, .int m_keptMany, .ref a_kept])), (a_tried, .inl (cI, 26, .inl m_tried)), (a_undos, .inl (cI, 208, .inl m_undos_2))] H := hP
    have hD : va_D A [(ax, .inr (8, [.int m_letterMany, .ref a_text, .int m_readAt, .ref a_told, .ref a_readLaw, .ref a_readNow, .ref a_law, .ref a_now, .ref a_tried, .int (m_undoMany + (0 : Int32)), .int (jrem (m_undoAt + (1 : Int32)) (8 : Int32)), .ref a_undos, .int m_seenMany, .ref a_seenHour, .ref a_seenAt, .ref a_parts, .ref a_partsThen, .int m_keptMany, .ref a_kept])), (a_tried, .inl (cI, 26, .inl m_tried)), (a_undos, .inl (cI, 208, .inl m_undos_2))] := hD
    cases hF
    rw [hQ]
    exact xrv hC hP hS dX8_remember_70
  · have hF := op_neg c6 hF
    refine lv_iconst (v := (1 : Int32)) hx hb dX8_remember_61 (by decide) ?_
    refine lv_goto (tgt := 66) hx hb dX8_remember_62 (by decide) ?_
    refine lv_iadd hx hb dX8_remember_66 ?_
    refine va_put (D := D) (ci := 8) (v := .int (m_undoMany + (1 : Int32))) (ty := .int) (C := RX8) (T := TX8) (N := 19) hx hb hts iX8 tyX8 tyX8_ok nmX8 hown hK hP hD hS 0 rfl rfl 9 (by decide) k_f99 (fun _ h9 => h9) rfl (by decide +kernel) rfl rfl (Nat.le_of_ble_eq_true rfl) dX8_remember_67 (fun H locs hP hD hS => ?_)
    have hP : va_P D vwCl [(ax, .inr (8, [.int m_letterMany, .ref a_text, .int m_readAt, .ref a_told, .ref a_readLaw, .ref a_readNow, .ref a_law, .ref a_now, .ref a_tried, .int (m_undoMany + (1 : Int32)), .int (jrem (m_undoAt + (1 : Int32)) (8 : Int32)), .ref a_undos, .int m_seenMany, .ref a_seenHour, .ref a_seenAt, .ref a_parts, .ref a_partsThen, .int m_keptMany, .ref a_kept])), (a_tried, .inl (cI, 26, .inl m_tried)), (a_undos, .inl (cI, 208, .inl m_undos_2))] H := hP
    have hD : va_D A [(ax, .inr (8, [.int m_letterMany, .ref a_text, .int m_readAt, .ref a_told, .ref a_readLaw, .ref a_readNow, .ref a_law, .ref a_now, .ref a_tried, .int (m_undoMany + (1 : Int32)), .int (jrem (m_undoAt + (1 : Int32)) (8 : Int32)), .ref a_undos, .int m_seenMany, .ref a_seenHour, .ref a_seenAt, .ref a_parts, .ref a_partsThen, .int m_keptMany, .ref a_kept])), (a_tried, .inl (cI, 26, .inl m_tried)), (a_undos, .inl (cI, 208, .inl m_undos_2))] := hD
    cases hF
    rw [hQ]
    exact xrv hC hP hS dX8_remember_70

def f_X8_copyNow_L2 (m_now : (Nat → Int32)) (k2 : Int32 → (Nat → Int32) → Option (Nat → Int32)) : Nat → Int32 → (Nat → Int32) → Option (Nat → Int32)
  | 0, _, _ => none
  | nf2 + 1, v1, m_tried_2 => (if (26 : Int32) ≤ v1 then (k2 v1 m_tried_2) else (if okb v1 26 = true then (f_X8_copyNow_L2 m_now k2 nf2 (v1 + (1 : Int32)) (upd m_tried_2 v1.toNatClampNeg (m_now v1.toNatClampNeg))) else none))
theorem f_X8_copyNow_L2_0 (m_now : (Nat → Int32)) (k2 : Int32 → (Nat → Int32) → Option (Nat → Int32)) (v1 : Int32) (m_tried_2 : (Nat → Int32)) : f_X8_copyNow_L2 m_now k2 0 v1 m_tried_2 = none := rfl
theorem f_X8_copyNow_L2_s (m_now : (Nat → Int32)) (k2 : Int32 → (Nat → Int32) → Option (Nat → Int32)) (nf2 : Nat) (v1 : Int32) (m_tried_2 : (Nat → Int32)) : f_X8_copyNow_L2 m_now k2 (nf2 + 1) v1 m_tried_2 = (if (26 : Int32) ≤ v1 then (k2 v1 m_tried_2) else (if okb v1 26 = true then (f_X8_copyNow_L2 m_now k2 nf2 (v1 + (1 : Int32)) (upd m_tried_2 v1.toNatClampNeg (m_now v1.toNatClampNeg))) else none)) := rfl

def f_X8_copyNow (m_now : (Nat → Int32)) (m_tried : (Nat → Int32)) : Option (Nat → Int32) := (f_X8_copyNow_L2 m_now (fun (v1 : Int32) (m_tried_2 : (Nat → Int32)) => (some m_tried_2)) 20000 (0 : Int32) m_tried)

def rm_X8_copyNow : Room := { frames := 0, cells := 0, slots := 0, locals := 0 }

theorem pd_X8_copyNow : yX8_copyNow.cls ≠ "java/lang/invoke/MethodHandle" ∧ yX8_copyNow.cls ≠ "java/lang/invoke/VarHandle" ∧ (parseMethodDescriptor yX8_copyNow.desc).map (fun d => d.parameters.length) = some 0 := by decide +kernel

set_option maxHeartbeats 4000000 in
set_option maxRecDepth 100000 in
theorem c_X8_copyNow (l : Launch) (D : va_G) (cI cC cM : ClassId) (ax a_now a_tried a_text a_told a_readLaw a_readNow a_law a_undos a_seenHour a_seenAt a_parts a_partsThen a_kept : Nat) (m_letterMany : Int32) (m_readAt : Int32) (m_undoMany : Int32) (m_undoAt : Int32) (m_seenMany : Int32) (m_keptMany : Int32) (m_now : (Nat → Int32)) (m_tried : (Nat → Int32)) (m_tried' : (Nat → Int32)) (hF : f_X8_copyNow m_now m_tried = some m_tried') : CV l D cI cC cM yX8_copyNow wsX8_copyNow rm_X8_copyNow [.ref ax] [(ax, .inr (8, [.int m_letterMany, .ref a_text, .int m_readAt, .ref a_told, .ref a_readLaw, .ref a_readNow, .ref a_law, .ref a_now, .ref a_tried, .int m_undoMany, .int m_undoAt, .ref a_undos, .int m_seenMany, .ref a_seenHour, .ref a_seenAt, .ref a_parts, .ref a_partsThen, .int m_keptMany, .ref a_kept])), (a_now, .inl (cI, 26, .inl m_now)), (a_tried, .inl (cI, 26, .inl m_tried))] [(ax, .inr (8, [.int m_letterMany, .ref a_text, .int m_readAt, .ref a_told, .ref a_readLaw, .ref a_readNow, .ref a_law, .ref a_now, .ref a_tried, .int m_undoMany, .int m_undoAt, .ref a_undos, .int m_seenMany, .ref a_seenHour, .ref a_seenAt, .ref a_parts, .ref a_partsThen, .int m_keptMany, .ref a_kept])), (a_now, .inl (cI, 26, .inl m_now)), (a_tried, .inl (cI, 26, .inl m_tried'))] := by
  refine CV.of (cc := cX8_copyNow) (nL := 2) (ret := none) (by decide) rfl (Nat.le_of_ble_eq_true rfl) ?_
  intro p e s m args below meth c A hC hP hD hS ls hl
  obtain ⟨hx, hb, hml, hown, hts, hr, hlk, hG, hA⟩ := id hC
  have hown : s.vm.findClass RX8 = some m.cls := hown
  have hK := hG.1
  have hl : lv_has ls 2 [(0, .ref ax)] := hl
  have k_f28 := hts (.fieldLink RX8 28 "ParasolHoursModel" "tried" "[I") (List.mem_of_getElem? (i := 1) rfl)
  have k_f25 := hts (.fieldLink RX8 25 "ParasolHoursModel" "now" "[I") (List.mem_of_getElem? (i := 2) rfl)
  have iX8 : ∀ w ∈ wsX80, w ∈ wsX8_copyNow := by decide +kernel
  obtain ⟨Q, hQ⟩ : ∃ Q, Q = MQ below (QV D [(ax, .inr (8, [.int m_letterMany, .ref a_text, .int m_readAt, .ref a_told, .ref a_readLaw, .ref a_readNow, .ref a_law, .ref a_now, .ref a_tried, .int m_undoMany, .int m_undoAt, .ref a_undos, .int m_seenMany, .ref a_seenHour, .ref a_seenAt, .ref a_parts, .ref a_partsThen, .int m_keptMany, .ref a_kept])), (a_now, .inl (cI, 26, .inl m_now)), (a_tried, .inl (cI, 26, .inl m_tried'))] A) args s 0 0 A := ⟨_, rfl⟩
  rw [← hQ]
  unfold f_X8_copyNow at hF
  refine lv_iconst (v := (0 : Int32)) hx hb dX8_copyNow_0 (by decide) ?_
  refine lv_istore_n (lv' := [(1, .int (0 : Int32)), (0, .ref ax)]) hx hb dX8_copyNow_1 rfl hl (by decide) rfl (fun ls hl => ?_)
  have hL2 : ∀ (k2 : Int32 → (Nat → Int32) → Option (Nat → Int32)), (∀ (v1 : Int32) (m_tried_2 : (Nat → Int32)) (H : Heap) (locs : List Loc), va_P D vwCl [(ax, .inr (8, [.int m_letterMany, .ref a_text, .int m_readAt, .ref a_told, .ref a_readLaw, .ref a_readNow, .ref a_law, .ref a_now, .ref a_tried, .int m_undoMany, .int m_undoAt, .ref a_undos, .int m_seenMany, .ref a_seenHour, .ref a_seenAt, .ref a_parts, .ref a_partsThen, .int m_keptMany, .ref a_kept])), (a_now, .inl (cI, 26, .inl m_now)), (a_tried, .inl (cI, 26, .inl m_tried_2))] H → va_D A [(ax, .inr (8, [.int m_letterMany, .ref a_text, .int m_readAt, .ref a_told, .ref a_readLaw, .ref a_readNow, .ref a_law, .ref a_now, .ref a_tried, .int m_undoMany, .int m_undoAt, .ref a_undos, .int m_seenMany, .ref a_seenHour, .ref a_seenAt, .ref a_parts, .ref a_partsThen, .int m_keptMany, .ref a_kept])), (a_now, .inl (cI, 26, .inl m_now)), (a_tried, .inl (cI, 26, .inl m_tried_2))] → va_S A s.heap H locs → ∀ ls : Array Slot, lv_has ls 2 [] → k2 v1 m_tried_2 = some m_tried' → W p l e rm_X8_copyNow s m args below meth c H locs 0 0 Q (F0 m 26 ls [])) → ∀ (nf2 : Nat) (v1 : Int32) (m_tried_2 : (Nat → Int32)) (H : Heap) (locs : List Loc), va_P D vwCl [(ax, .inr (8, [.int m_letterMany, .ref a_text, .int m_readAt, .ref a_told, .ref a_readLaw, .ref a_readNow, .ref a_law, .ref a_now, .ref a_tried, .int m_undoMany, .int m_undoAt, .ref a_undos, .int m_seenMany, .ref a_seenHour, .ref a_seenAt, .ref a_parts, .ref a_partsThen, .int m_keptMany, .ref a_kept])), (a_now, .inl (cI, 26, .inl m_now)), (a_tried, .inl (cI, 26, .inl m_tried_2))] H → va_D A [(ax, .inr (8, [.int m_letterMany, .ref a_text, .int m_readAt, .ref a_told, .ref a_readLaw, .ref a_readNow, .ref a_law, .ref a_now, .ref a_tried, .int m_undoMany, .int m_undoAt, .ref a_undos, .int m_seenMany, .ref a_seenHour, .ref a_seenAt, .ref a_parts, .ref a_partsThen, .int m_keptMany, .ref a_kept])), (a_now, .inl (cI, 26, .inl m_now)), (a_tried, .inl (cI, 26, .inl m_tried_2))] → va_S A s.heap H locs → ∀ ls : Array Slot, lv_has ls 2 [(1, .int v1), (0, .ref ax)] → f_X8_copyNow_L2 m_now k2 nf2 v1 m_tried_2 = some m_tried' → W p l e rm_X8_copyNow s m args below meth c H locs 0 0 Q (F0 m 2 ls []) := by
    intro k2 hk2 nf2
    induction nf2 with
    | zero =>
      intro v1 m_tried_2 H locs hP hD hS ls hl hF
      rw [f_X8_copyNow_L2_0] at hF
      cases hF
    | succ nf2 ih2 =>
      intro v1 m_tried_2 H locs hP hD hS ls hl hF
      rw [f_X8_copyNow_L2_s] at hF
      refine lv_iload_n hx hb dX8_copyNow_2 rfl (lv_at hl 0 rfl) ?_
      refine lv_bipush (v := (26 : Int32)) hx hb dX8_copyNow_3 (by decide) ?_
      refine lv_icmp_ge (tgt := 26) hx hb dX8_copyNow_5 (by decide) (fun c3 => ?_) (fun c3 => ?_)
      · have hF := op_pos c3 hF
        exact hk2 v1 m_tried_2 _ _ hP hD hS _ (lv_sub hl [] rfl) hF
      · have hF := op_neg c3 hF
        refine lv_aload_n hx hb dX8_copyNow_8 rfl (lv_at hl 1 rfl) ?_
        refine va_get (D := D) (ci := 8) (v := .ref a_tried) (C := RX8) (T := TX8) (N := 19) hx hb hts iX8 hown hK hP 0 rfl rfl 8 (by decide) k_f28 (fun _ h9 => h9) rfl dX8_copyNow_9 ?_
        refine lv_iload_n hx hb dX8_copyNow_12 rfl (lv_at hl 0 rfl) ?_
        refine lv_aload_n hx hb dX8_copyNow_13 rfl (lv_at hl 1 rfl) ?_
        refine va_get (D := D) (ci := 8) (v := .ref a_now) (C := RX8) (T := TX8) (N := 19) hx hb hts iX8 hown hK hP 0 rfl rfl 7 (by decide) k_f25 (fun _ h9 => h9) rfl dX8_copyNow_14 ?_
        refine lv_iload_n hx hb dX8_copyNow_17 rfl (lv_at hl 0 rfl) ?_
        obtain ⟨o4, hF⟩ := op_ob hF
        refine va_iald hx hb hK hP 1 0 rfl rfl (okb_in o4) dX8_copyNow_18 ?_
        refine va_iast hx hb hK hP hD hS 2 0 rfl rfl (okb_in o4) dX8_copyNow_19 (fun H locs hP hD hS => ?_)
        have hP : va_P D vwCl [(ax, .inr (8, [.int m_letterMany, .ref a_text, .int m_readAt, .ref a_told, .ref a_readLaw, .ref a_readNow, .ref a_law, .ref a_now, .ref a_tried, .int m_undoMany, .int m_undoAt, .ref a_undos, .int m_seenMany, .ref a_seenHour, .ref a_seenAt, .ref a_parts, .ref a_partsThen, .int m_keptMany, .ref a_kept])), (a_now, .inl (cI, 26, .inl m_now)), (a_tried, .inl (cI, 26, .inl (upd m_tried_2 v1.toNatClampNeg (m_now v1.toNatClampNeg))))] H := hP
        have hD : va_D A [(ax, .inr (8, [.int m_letterMany, .ref a_text, .int m_readAt, .ref a_told, .ref a_readLaw, .ref a_readNow, .ref a_law, .ref a_now, .ref a_tried, .int m_undoMany, .int m_undoAt, .ref a_undos, .int m_seenMany, .ref a_seenHour, .ref a_seenAt, .ref a_parts, .ref a_partsThen, .int m_keptMany, .ref a_kept])), (a_now, .inl (cI, 26, .inl m_now)), (a_tried, .inl (cI, 26, .inl (upd m_tried_2 v1.toNatClampNeg (m_now v1.toNatClampNeg))))] := hD
        refine lv_iinc (v := (v1 + (1 : Int32))) (lv' := [(1, .int (v1 + (1 : Int32))), (0, .ref ax)]) hx hb dX8_copyNow_20 hl (k := 0) rfl (by first | rfl | decide) (by decide) rfl (fun ls hl => ?_)
        refine lv_goto (tgt := 2) hx hb dX8_copyNow_23 (by decide) ?_
        exact ih2 (v1 + (1 : Int32)) (upd m_tried_2 v1.toNatClampNeg (m_now v1.toNatClampNeg)) _ _ hP hD hS _ (lv_sub hl [0, 1] rfl) hF
  refine hL2 _ (fun v1 m_tried_2 H locs hP hD hS ls hl hF => ?_) 20000 (0 : Int32) m_tried _ _ hP hD hS _ (lv_sub hl [0, 1] rfl) hF
  cases hF
  rw [hQ]
  exact xrv hC hP hS dX8_copyNow_26

def f_X8_done (m_undoMany : Int32) (m_undoAt : Int32) (m_tried : (Nat → Int32)) (m_undos : (Nat → Int32)) (i : Int32) (j : Int32) : Option (Int32 × Int32 × Int32 × (Nat → Int32)) := (if i = 0 then (some ((-2 : Int32), m_undoMany, m_undoAt, m_undos)) else (Option.bind (f_X8_remember m_undoMany m_undoAt m_tried m_undos) fun (m_undoMany_2, m_undoAt_3, m_undos_4) => (some (j, m_undoMany_2, m_undoAt_3, m_undos_4))))

def rm_X8_done : Room := { frames := 1, cells := 0, slots := 0, locals := 21 }

theorem pd_X8_done : yX8_done.cls ≠ "java/lang/invoke/MethodHandle" ∧ yX8_done.cls ≠ "java/lang/invoke/VarHandle" ∧ (parseMethodDescriptor yX8_done.desc).map (fun d => d.parameters.length) = some 2 := by decide +kernel

set_option maxHeartbeats 4000000 in
set_option maxRecDepth 100000 in
theorem c_X8_done (l : Launch) (D : va_G) (cI cC cM : ClassId) (ax a_tried a_undos a_text a_told a_readLaw a_readNow a_law a_now a_seenHour a_seenAt a_parts a_partsThen a_kept : Nat) (m_letterMany : Int32) (m_readAt : Int32) (m_undoMany : Int32) (m_undoAt : Int32) (m_seenMany : Int32) (m_keptMany : Int32) (m_tried : (Nat → Int32)) (m_undos : (Nat → Int32)) (i : Int32) (j : Int32) (rr : Int32) (m_undoMany' : Int32) (m_undoAt' : Int32) (m_undos' : (Nat → Int32)) (hF : f_X8_done m_undoMany m_undoAt m_tried m_undos i j = some (rr, m_undoMany', m_undoAt', m_undos')) : CI l D cI cC cM yX8_done wsX8_done rm_X8_done [.ref ax, .int i, .int j] [(ax, .inr (8, [.int m_letterMany, .ref a_text, .int m_readAt, .ref a_told, .ref a_readLaw, .ref a_readNow, .ref a_law, .ref a_now, .ref a_tried, .int m_undoMany, .int m_undoAt, .ref a_undos, .int m_seenMany, .ref a_seenHour, .ref a_seenAt, .ref a_parts, .ref a_partsThen, .int m_keptMany, .ref a_kept])), (a_tried, .inl (cI, 26, .inl m_tried)), (a_undos, .inl (cI, 208, .inl m_undos))] [(ax, .inr (8, [.int m_letterMany, .ref a_text, .int m_readAt, .ref a_told, .ref a_readLaw, .ref a_readNow, .ref a_law, .ref a_now, .ref a_tried, .int m_undoMany', .int m_undoAt', .ref a_undos, .int m_seenMany, .ref a_seenHour, .ref a_seenAt, .ref a_parts, .ref a_partsThen, .int m_keptMany, .ref a_kept])), (a_tried, .inl (cI, 26, .inl m_tried)), (a_undos, .inl (cI, 208, .inl m_undos'))] rr := by
  refine CI.of (cc := cX8_done) (nL := 3) (ret := (some .int)) (by decide) rfl (Nat.le_of_ble_eq_true rfl) ?_
  intro p e s m args below meth c A hC hP hD hS ls hl
  obtain ⟨hx, hb, hml, hown, hts, hr, hlk, hG, hA⟩ := id hC
  have hown : s.vm.findClass RX8 = some m.cls := hown
  have hK := hG.1
  have hl : lv_has ls 3 [(0, .ref ax), (1, .int i), (2, .int j)] := hl
  obtain ⟨Q, hQ⟩ : ∃ Q, Q = MQ below (QI D [(ax, .inr (8, [.int m_letterMany, .ref a_text, .int m_readAt, .ref a_told, .ref a_readLaw, .ref a_readNow, .ref a_law, .ref a_now, .ref a_tried, .int m_undoMany', .int m_undoAt', .ref a_undos, .int m_seenMany, .ref a_seenHour, .ref a_seenAt, .ref a_parts, .ref a_partsThen, .int m_keptMany, .ref a_kept])), (a_tried, .inl (cI, 26, .inl m_tried)), (a_undos, .inl (cI, 208, .inl m_undos'))] rr A) args s 0 0 A := ⟨_, rfl⟩
  rw [← hQ]
  unfold f_X8_done at hF
  refine lv_iload_n hx hb dX8_done_0 rfl (lv_at hl 1 rfl) ?_
  refine lv_if_ne (tgt := 7) hx hb dX8_done_1 (by decide) (fun c1 => ?_) (fun c1 => ?_)
  · have hF := op_neg c1 hF
    refine lv_aload_n hx hb dX8_done_7 rfl (lv_at hl 0 rfl) ?_
    obtain ⟨⟨m_undoMany_2, m_undoAt_3, m_undos_4⟩, hb5, hF⟩ := op_bind hF
    refine xVv (As := []) (rest := []) hC hP hD hS [0, 1, 2] (c_X8_remember l D cI cC cM ax a_tried a_undos a_text a_told a_readLaw a_readNow a_law a_now a_seenHour a_seenAt a_parts a_partsThen a_kept m_letterMany m_readAt m_undoMany m_undoAt m_seenMany m_keptMany m_tried m_undos m_undoMany_2 m_undoAt_3 m_undos_4 hb5) (cwV 0 hts gX8_done_X8_remember rfl rfl rfl ⟨rfl, pd_X8_remember⟩ ⟨Nat.le_of_ble_eq_true rfl, Nat.le_of_ble_eq_true rfl⟩) rfl rfl rfl 0 8 rfl rfl rfl rfl hl.1 rfl (Nat.le_of_ble_eq_true rfl) dX8_done_8 ⟨Nat.zero_le _, Nat.zero_le _⟩ (fun H locs hP hD hS => ?_)
    have hP : va_P D vwCl [(ax, .inr (8, [.int m_letterMany, .ref a_text, .int m_readAt, .ref a_told, .ref a_readLaw, .ref a_readNow, .ref a_law, .ref a_now, .ref a_tried, .int m_undoMany_2, .int m_undoAt_3, .ref a_undos, .int m_seenMany, .ref a_seenHour, .ref a_seenAt, .ref a_parts, .ref a_partsThen, .int m_keptMany, .ref a_kept])), (a_tried, .inl (cI, 26, .inl m_tried)), (a_undos, .inl (cI, 208, .inl m_undos_4))] H := hP
    have hD : va_D A [(ax, .inr (8, [.int m_letterMany, .ref a_text, .int m_readAt, .ref a_told, .ref a_readLaw, .ref a_readNow, .ref a_law, .ref a_now, .ref a_tried, .int m_undoMany_2, .int m_undoAt_3, .ref a_undos, .int m_seenMany, .ref a_seenHour, .ref a_seenAt, .ref a_parts, .ref a_partsThen, .int m_keptMany, .ref a_kept])), (a_tried, .inl (cI, 26, .inl m_tried)), (a_undos, .inl (cI, 208, .inl m_undos_4))] := hD
    refine lv_iload_n hx hb dX8_done_11 rfl (lv_at hl 2 rfl) ?_
    cases hF
    rw [hQ]
    exact xri hC hP hS dX8_done_12
  · have hF := op_pos c1 hF
    refine lv_bipush (v := (-2 : Int32)) hx hb dX8_done_4 (by decide) ?_
    cases hF
    rw [hQ]
    exact xri hC hP hS dX8_done_6

def f_X8_take (m_undoMany : Int32) (m_undoAt : Int32) (m_law : (Nat → Int32)) (m_now : (Nat → Int32)) (m_tried : (Nat → Int32)) (m_undos : (Nat → Int32)) (i : Int32) (u : Int32) : Option (Int32 × Int32 × Int32 × (Nat → Int32) × (Nat → Int32) × (Nat → Int32)) := (Option.bind (f_X8_isPerson m_law i) fun r1 => (if r1 = 0 then (some ((-1 : Int32), m_undoMany, m_undoAt, m_now, m_tried, m_undos)) else (Option.bind (f_X8_isParasol m_law u) fun r4 => (if r4 = 0 then (some ((-1 : Int32), m_undoMany, m_undoAt, m_now, m_tried, m_undos)) else (Option.bind (f_X8_copyNow m_now m_tried) fun m_tried_7 => (Option.bind (f_X8_takes m_law m_now i u) fun (r9, o_10) => (if okb ((4 : Int32) + u) 26 = true then (Option.bind (f_X8_done m_undoMany m_undoAt m_tried_7 m_undos r9 (o_10 ((4 : Int32) + u).toNatClampNeg)) fun (r13, m_undoMany_14, m_undoAt_15, m_undos_16) => (some (r13, m_undoMany_14, m_undoAt_15, o_10, m_tried_7, m_undos_16))) else none)))))))

def rm_X8_take : Room := { frames := 2, cells := 0, slots := 0, locals := 47 }

theorem pd_X8_take : yX8_take.cls ≠ "java/lang/invoke/MethodHandle" ∧ yX8_take.cls ≠ "java/lang/invoke/VarHandle" ∧ (parseMethodDescriptor yX8_take.desc).map (fun d => d.parameters.length) = some 2 := by decide +kernel

set_option maxHeartbeats 4000000 in
set_option maxRecDepth 100000 in
theorem c_X8_take (l : Launch) (D : va_G) (cI cC cM : ClassId) (ax a_law a_now a_tried a_undos a_text a_told a_readLaw a_readNow a_seenHour a_seenAt a_parts a_partsThen a_kept : Nat) (m_letterMany : Int32) (m_readAt : Int32) (m_undoMany : Int32) (m_undoAt : Int32) (m_seenMany : Int32) (m_keptMany : Int32) (m_law : (Nat → Int32)) (m_now : (Nat → Int32)) (m_tried : (Nat → Int32)) (m_undos : (Nat → Int32)) (i : Int32) (u : Int32) (rr : Int32) (m_undoMany' : Int32) (m_undoAt' : Int32) (m_now' : (Nat → Int32)) (m_tried' : (Nat → Int32)) (m_undos' : (Nat → Int32)) (hF : f_X8_take m_undoMany m_undoAt m_law m_now m_tried m_undos i u = some (rr, m_undoMany', m_undoAt', m_now', m_tried', m_undos')) : CI l D cI cC cM yX8_take wsX8_take rm_X8_take [.ref ax, .int i, .int u] [(ax, .inr (8, [.int m_letterMany, .ref a_text, .int m_readAt, .ref a_told, .ref a_readLaw, .ref a_readNow, .ref a_law, .ref a_now, .ref a_tried, .int m_undoMany, .int m_undoAt, .ref a_undos, .int m_seenMany, .ref a_seenHour, .ref a_seenAt, .ref a_parts, .ref a_partsThen, .int m_keptMany, .ref a_kept])), (a_law, .inl (cI, 22, .inl m_law)), (a_now, .inl (cI, 26, .inl m_now)), (a_tried, .inl (cI, 26, .inl m_tried)), (a_undos, .inl (cI, 208, .inl m_undos))] [(ax, .inr (8, [.int m_letterMany, .ref a_text, .int m_readAt, .ref a_told, .ref a_readLaw, .ref a_readNow, .ref a_law, .ref a_now, .ref a_tried, .int m_undoMany', .int m_undoAt', .ref a_undos, .int m_seenMany, .ref a_seenHour, .ref a_seenAt, .ref a_parts, .ref a_partsThen, .int m_keptMany, .ref a_kept])), (a_law, .inl (cI, 22, .inl m_law)), (a_now, .inl (cI, 26, .inl m_now')), (a_tried, .inl (cI, 26, .inl m_tried')), (a_undos, .inl (cI, 208, .inl m_undos'))] rr := by
  refine CI.of (cc := cX8_take) (nL := 3) (ret := (some .int)) (by decide) rfl (Nat.le_of_ble_eq_true rfl) ?_
  intro p e s m args below meth c A hC hP hD hS ls hl
  obtain ⟨hx, hb, hml, hown, hts, hr, hlk, hG, hA⟩ := id hC
  have hown : s.vm.findClass RX8 = some m.cls := hown
  have hK := hG.1
  have hl : lv_has ls 3 [(0, .ref ax), (1, .int i), (2, .int u)] := hl
  have k_f25 := hts (.fieldLink RX8 25 "ParasolHoursModel" "now" "[I") (List.mem_of_getElem? (i := 1) rfl)
  have iX8 : ∀ w ∈ wsX80, w ∈ wsX8_take := by decide +kernel
  obtain ⟨Q, hQ⟩ : ∃ Q, Q = MQ below (QI D [(ax, .inr (8, [.int m_letterMany, .ref a_text, .int m_readAt, .ref a_told, .ref a_readLaw, .ref a_readNow, .ref a_law, .ref a_now, .ref a_tried, .int m_undoMany', .int m_undoAt', .ref a_undos, .int m_seenMany, .ref a_seenHour, .ref a_seenAt, .ref a_parts, .ref a_partsThen, .int m_keptMany, .ref a_kept])), (a_law, .inl (cI, 22, .inl m_law)), (a_now, .inl (cI, 26, .inl m_now')), (a_tried, .inl (cI, 26, .inl m_tried')), (a_undos, .inl (cI, 208, .inl m_undos'))] rr A) args s 0 0 A := ⟨_, rfl⟩
  rw [← hQ]
  unfold f_X8_take at hF
  refine lv_aload_n hx hb dX8_take_0 rfl (lv_at hl 0 rfl) ?_
  refine lv_iload_n hx hb dX8_take_1 rfl (lv_at hl 1 rfl) ?_
  obtain ⟨r1, hb2, hF⟩ := op_bind hF
  refine xVr (As := [.int i]) (rest := []) hC hP hD hS [0, 1] (c_X8_isPerson l D cI cC cM ax a_law a_text a_told a_readLaw a_readNow a_now a_tried a_undos a_seenHour a_seenAt a_parts a_partsThen a_kept m_letterMany m_readAt m_undoMany m_undoAt m_seenMany m_keptMany m_law i r1 hb2) (cwV 1 hts gX8_take_X8_isPerson rfl rfl rfl ⟨rfl, pd_X8_isPerson⟩ ⟨Nat.le_of_ble_eq_true rfl, Nat.le_of_ble_eq_true rfl⟩) rfl rfl 0 8 rfl rfl rfl rfl hl.1 rfl (Nat.le_of_ble_eq_true rfl) dX8_take_2 ⟨Nat.zero_le _, Nat.zero_le _⟩ (fun H locs hP hS => ?_)
  refine lv_if_eq (tgt := 16) hx hb dX8_take_5 (by decide) (fun c3 => ?_) (fun c3 => ?_)
  · have hF := op_pos c3 hF
    refine lv_iconst (v := (-1 : Int32)) hx hb dX8_take_16 (by decide) ?_
    cases hF
    rw [hQ]
    exact xri hC hP hS dX8_take_17
  · have hF := op_neg c3 hF
    refine lv_aload_n hx hb dX8_take_8 rfl (lv_at hl 0 rfl) ?_
    refine lv_iload_n hx hb dX8_take_9 rfl (lv_at hl 2 rfl) ?_
    obtain ⟨r4, hb5, hF⟩ := op_bind hF
    refine xVr (As := [.int u]) (rest := []) hC hP hD hS [0, 1] (c_X8_isParasol l D cI cC cM ax a_law a_text a_told a_readLaw a_readNow a_now a_tried a_undos a_seenHour a_seenAt a_parts a_partsThen a_kept m_letterMany m_readAt m_undoMany m_undoAt m_seenMany m_keptMany m_law u r4 hb5) (cwV 1 hts gX8_take_X8_isParasol rfl rfl rfl ⟨rfl, pd_X8_isParasol⟩ ⟨Nat.le_of_ble_eq_true rfl, Nat.le_of_ble_eq_true rfl⟩) rfl rfl 0 8 rfl rfl rfl rfl hl.1 rfl (Nat.le_of_ble_eq_true rfl) dX8_take_10 ⟨Nat.zero_le _, Nat.zero_le _⟩ (fun H locs hP hS => ?_)
    refine lv_if_ne (tgt := 18) hx hb dX8_take_13 (by decide) (fun c6 => ?_) (fun c6 => ?_)
    · have hF := op_neg c6 hF
      refine lv_aload_n hx hb dX8_take_18 rfl (lv_at hl 0 rfl) ?_
      obtain ⟨m_tried_7, hb8, hF⟩ := op_bind hF
      refine xVv (As := []) (rest := []) hC hP hD hS [0, 2, 3] (c_X8_copyNow l D cI cC cM ax a_now a_tried a_text a_told a_readLaw a_readNow a_law a_undos a_seenHour a_seenAt a_parts a_partsThen a_kept m_letterMany m_readAt m_undoMany m_undoAt m_seenMany m_keptMany m_now m_tried m_tried_7 hb8) (cwV 0 hts gX8_take_X8_copyNow rfl rfl rfl ⟨rfl, pd_X8_copyNow⟩ ⟨Nat.le_of_ble_eq_true rfl, Nat.le_of_ble_eq_true rfl⟩) rfl rfl rfl 0 8 rfl rfl rfl rfl hl.1 rfl (Nat.le_of_ble_eq_true rfl) dX8_take_19 ⟨Nat.zero_le _, Nat.zero_le _⟩ (fun H locs hP hD hS => ?_)
      have hP : va_P D vwCl [(ax, .inr (8, [.int m_letterMany, .ref a_text, .int m_readAt, .ref a_told, .ref a_readLaw, .ref a_readNow, .ref a_law, .ref a_now, .ref a_tried, .int m_undoMany, .int m_undoAt, .ref a_undos, .int m_seenMany, .ref a_seenHour, .ref a_seenAt, .ref a_parts, .ref a_partsThen, .int m_keptMany, .ref a_kept])), (a_law, .inl (cI, 22, .inl m_law)), (a_now, .inl (cI, 26, .inl m_now)), (a_tried, .inl (cI, 26, .inl m_tried_7)), (a_undos, .inl (cI, 208, .inl m_undos))] H := hP
      have hD : va_D A [(ax, .inr (8, [.int m_letterMany, .ref a_text, .int m_readAt, .ref a_told, .ref a_readLaw, .ref a_readNow, .ref a_law, .ref a_now, .ref a_tried, .int m_undoMany, .int m_undoAt, .ref a_undos, .int m_seenMany, .ref a_seenHour, .ref a_seenAt, .ref a_parts, .ref a_partsThen, .int m_keptMany, .ref a_kept])), (a_law, .inl (cI, 22, .inl m_law)), (a_now, .inl (cI, 26, .inl m_now)), (a_tried, .inl (cI, 26, .inl m_tried_7)), (a_undos, .inl (cI, 208, .inl m_undos))] := hD
      refine lv_aload_n hx hb dX8_take_22 rfl (lv_at hl 0 rfl) ?_
      refine lv_aload_n hx hb dX8_take_23 rfl (lv_at hl 0 rfl) ?_
      refine lv_aload_n hx hb dX8_take_24 rfl (lv_at hl 0 rfl) ?_
      refine va_get (D := D) (ci := 8) (v := .ref a_now) (C := RX8) (T := TX8) (N := 19) hx hb hts iX8 hown hK hP 0 rfl rfl 7 (by decide) k_f25 (fun _ h9 => h9) rfl dX8_take_25 ?_
      refine lv_iload_n hx hb dX8_take_28 rfl (lv_at hl 1 rfl) ?_
      refine lv_iload_n hx hb dX8_take_29 rfl (lv_at hl 2 rfl) ?_
      obtain ⟨⟨r9, o_10⟩, hb11, hF⟩ := op_bind hF
      refine xVi (As := [.ref a_now, .int i, .int u]) (rest := [.ref ax]) hC hP hD hS [0, 1, 2] (c_X8_takes l D cI cC cM ax a_law a_now a_text a_told a_readLaw a_readNow a_now a_tried a_undos a_seenHour a_seenAt a_parts a_partsThen a_kept m_letterMany m_readAt m_undoMany m_undoAt m_seenMany m_keptMany m_law m_now i u r9 o_10 hb11) (cwV 3 hts gX8_take_X8_takes rfl rfl rfl ⟨rfl, pd_X8_takes⟩ ⟨Nat.le_of_ble_eq_true rfl, Nat.le_of_ble_eq_true rfl⟩) rfl rfl rfl 0 8 rfl rfl rfl rfl hl.1 rfl (Nat.le_of_ble_eq_true rfl) dX8_take_30 ⟨Nat.zero_le _, Nat.zero_le _⟩ (fun H locs hP hD hS => ?_)
      have hP : va_P D vwCl [(ax, .inr (8, [.int m_letterMany, .ref a_text, .int m_readAt, .ref a_told, .ref a_readLaw, .ref a_readNow, .ref a_law, .ref a_now, .ref a_tried, .int m_undoMany, .int m_undoAt, .ref a_undos, .int m_seenMany, .ref a_seenHour, .ref a_seenAt, .ref a_parts, .ref a_partsThen, .int m_keptMany, .ref a_kept])), (a_law, .inl (cI, 22, .inl m_law)), (a_now, .inl (cI, 26, .inl o_10)), (a_tried, .inl (cI, 26, .inl m_tried_7)), (a_undos, .inl (cI, 208, .inl m_undos))] H := hP
      have hD : va_D A [(ax, .inr (8, [.int m_letterMany, .ref a_text, .int m_readAt, .ref a_told, .ref a_readLaw, .ref a_readNow, .ref a_law, .ref a_now, .ref a_tried, .int m_undoMany, .int m_undoAt, .ref a_undos, .int m_seenMany, .ref a_seenHour, .ref a_seenAt, .ref a_parts, .ref a_partsThen, .int m_keptMany, .ref a_kept])), (a_law, .inl (cI, 22, .inl m_law)), (a_now, .inl (cI, 26, .inl o_10)), (a_tried, .inl (cI, 26, .inl m_tried_7)), (a_undos, .inl (cI, 208, .inl m_undos))] := hD
      refine lv_aload_n hx hb dX8_take_33 rfl (lv_at hl 0 rfl) ?_
      refine va_get (D := D) (ci := 8) (v := .ref a_now) (C := RX8) (T := TX8) (N := 19) hx hb hts iX8 hown hK hP 0 rfl rfl 7 (by decide) k_f25 (fun _ h9 => h9) rfl dX8_take_34 ?_
      refine lv_iconst (v := (4 : Int32)) hx hb dX8_take_37 (by decide) ?_
      refine lv_iload_n hx hb dX8_take_38 rfl (lv_at hl 2 rfl) ?_
      refine lv_iadd hx hb dX8_take_39 ?_
      obtain ⟨o12, hF⟩ := op_ob hF
      refine va_iald hx hb hK hP 2 0 rfl rfl (okb_in o12) dX8_take_40 ?_
      obtain ⟨⟨r13, m_undoMany_14, m_undoAt_15, m_undos_16⟩, hb17, hF⟩ := op_bind hF
      refine xVi (As := [.int r9, .int (o_10 ((4 : Int32) + u).toNatClampNeg)]) (rest := []) hC hP hD hS [0, 3, 4] (c_X8_done l D cI cC cM ax a_tried a_undos a_text a_told a_readLaw a_readNow a_law a_now a_seenHour a_seenAt a_parts a_partsThen a_kept m_letterMany m_readAt m_undoMany m_undoAt m_seenMany m_keptMany m_tried_7 m_undos r9 (o_10 ((4 : Int32) + u).toNatClampNeg) r13 m_undoMany_14 m_undoAt_15 m_undos_16 hb17) (cwV 2 hts gX8_take_X8_done rfl rfl rfl ⟨rfl, pd_X8_done⟩ ⟨Nat.le_of_ble_eq_true rfl, Nat.le_of_ble_eq_true rfl⟩) rfl rfl rfl 0 8 rfl rfl rfl rfl hl.1 rfl (Nat.le_of_ble_eq_true rfl) dX8_take_41 ⟨Nat.zero_le _, Nat.zero_le _⟩ (fun H locs hP hD hS => ?_)
      have hP : va_P D vwCl [(ax, .inr (8, [.int m_letterMany, .ref a_text, .int m_readAt, .ref a_told, .ref a_readLaw, .ref a_readNow, .ref a_law, .ref a_now, .ref a_tried, .int m_undoMany_14, .int m_undoAt_15, .ref a_undos, .int m_seenMany, .ref a_seenHour, .ref a_seenAt, .ref a_parts, .ref a_partsThen, .int m_keptMany, .ref a_kept])), (a_law, .inl (cI, 22, .inl m_law)), (a_now, .inl (cI, 26, .inl o_10)), (a_tried, .inl (cI, 26, .inl m_tried_7)), (a_undos, .inl (cI, 208, .inl m_undos_16))] H := hP
      have hD : va_D A [(ax, .inr (8, [.int m_letterMany, .ref a_text, .int m_readAt, .ref a_told, .ref a_readLaw, .ref a_readNow, .ref a_law, .ref a_now, .ref a_tried, .int m_undoMany_14, .int m_undoAt_15, .ref a_undos, .int m_seenMany, .ref a_seenHour, .ref a_seenAt, .ref a_parts, .ref a_partsThen, .int m_keptMany, .ref a_kept])), (a_law, .inl (cI, 22, .inl m_law)), (a_now, .inl (cI, 26, .inl o_10)), (a_tried, .inl (cI, 26, .inl m_tried_7)), (a_undos, .inl (cI, 208, .inl m_undos_16))] := hD
      cases hF
      rw [hQ]
      exact xri hC hP hS dX8_take_44
    · have hF := op_pos c6 hF
      refine lv_iconst (v := (-1 : Int32)) hx hb dX8_take_16 (by decide) ?_
      cases hF
      rw [hQ]
      exact xri hC hP hS dX8_take_17

def f_X8_share (m_undoMany : Int32) (m_undoAt : Int32) (m_law : (Nat → Int32)) (m_now : (Nat → Int32)) (m_tried : (Nat → Int32)) (m_undos : (Nat → Int32)) (i : Int32) (j : Int32) : Option (Int32 × Int32 × Int32 × (Nat → Int32) × (Nat → Int32) × (Nat → Int32)) := (Option.bind (f_X8_isPerson m_law i) fun r1 => (if r1 = 0 then (some ((-1 : Int32), m_undoMany, m_undoAt, m_now, m_tried, m_undos)) else (Option.bind (f_X8_isPerson m_law j) fun r4 => (if r4 = 0 then (some ((-1 : Int32), m_undoMany, m_undoAt, m_now, m_tried, m_undos)) else (if i = j then (some ((-1 : Int32), m_undoMany, m_undoAt, m_now, m_tried, m_undos)) else (Option.bind (f_X8_copyNow m_now m_tried) fun m_tried_8 => (Option.bind (f_X8_shares m_law m_now i j) fun (r10, o_11) => (if okb ((21 : Int32) + j) 26 = true then (Option.bind (f_X8_done m_undoMany m_undoAt m_tried_8 m_undos r10 (o_11 ((21 : Int32) + j).toNatClampNeg)) fun (r14, m_undoMany_15, m_undoAt_16, m_undos_17) => (some (r14, m_undoMany_15, m_undoAt_16, o_11, m_tried_8, m_undos_17))) else none))))))))

def rm_X8_share : Room := { frames := 2, cells := 0, slots := 0, locals := 48 }

theorem pd_X8_share : yX8_share.cls ≠ "java/lang/invoke/MethodHandle" ∧ yX8_share.cls ≠ "java/lang/invoke/VarHandle" ∧ (parseMethodDescriptor yX8_share.desc).map (fun d => d.parameters.length) = some 2 := by decide +kernel

set_option maxHeartbeats 4000000 in
set_option maxRecDepth 100000 in
theorem c_X8_share (l : Launch) (D : va_G) (cI cC cM : ClassId) (ax a_law a_now a_tried a_undos a_text a_told a_readLaw a_readNow a_seenHour a_seenAt a_parts a_partsThen a_kept : Nat) (m_letterMany : Int32) (m_readAt : Int32) (m_undoMany : Int32) (m_undoAt : Int32) (m_seenMany : Int32) (m_keptMany : Int32) (m_law : (Nat → Int32)) (m_now : (Nat → Int32)) (m_tried : (Nat → Int32)) (m_undos : (Nat → Int32)) (i : Int32) (j : Int32) (rr : Int32) (m_undoMany' : Int32) (m_undoAt' : Int32) (m_now' : (Nat → Int32)) (m_tried' : (Nat → Int32)) (m_undos' : (Nat → Int32)) (hF : f_X8_share m_undoMany m_undoAt m_law m_now m_tried m_undos i j = some (rr, m_undoMany', m_undoAt', m_now', m_tried', m_undos')) : CI l D cI cC cM yX8_share wsX8_share rm_X8_share [.ref ax, .int i, .int j] [(ax, .inr (8, [.int m_letterMany, .ref a_text, .int m_readAt, .ref a_told, .ref a_readLaw, .ref a_readNow, .ref a_law, .ref a_now, .ref a_tried, .int m_undoMany, .int m_undoAt, .ref a_undos, .int m_seenMany, .ref a_seenHour, .ref a_seenAt, .ref a_parts, .ref a_partsThen, .int m_keptMany, .ref a_kept])), (a_law, .inl (cI, 22, .inl m_law)), (a_now, .inl (cI, 26, .inl m_now)), (a_tried, .inl (cI, 26, .inl m_tried)), (a_undos, .inl (cI, 208, .inl m_undos))] [(ax, .inr (8, [.int m_letterMany, .ref a_text, .int m_readAt, .ref a_told, .ref a_readLaw, .ref a_readNow, .ref a_law, .ref a_now, .ref a_tried, .int m_undoMany', .int m_undoAt', .ref a_undos, .int m_seenMany, .ref a_seenHour, .ref a_seenAt, .ref a_parts, .ref a_partsThen, .int m_keptMany, .ref a_kept])), (a_law, .inl (cI, 22, .inl m_law)), (a_now, .inl (cI, 26, .inl m_now')), (a_tried, .inl (cI, 26, .inl m_tried')), (a_undos, .inl (cI, 208, .inl m_undos'))] rr := by
  refine CI.of (cc := cX8_share) (nL := 3) (ret := (some .int)) (by decide) rfl (Nat.le_of_ble_eq_true rfl) ?_
  intro p e s m args below meth c A hC hP hD hS ls hl
  obtain ⟨hx, hb, hml, hown, hts, hr, hlk, hG, hA⟩ := id hC
  have hown : s.vm.findClass RX8 = some m.cls := hown
  have hK := hG.1
  have hl : lv_has ls 3 [(0, .ref ax), (1, .int i), (2, .int j)] := hl
  have k_f25 := hts (.fieldLink RX8 25 "ParasolHoursModel" "now" "[I") (List.mem_of_getElem? (i := 1) rfl)
  have iX8 : ∀ w ∈ wsX80, w ∈ wsX8_share := by decide +kernel
  obtain ⟨Q, hQ⟩ : ∃ Q, Q = MQ below (QI D [(ax, .inr (8, [.int m_letterMany, .ref a_text, .int m_readAt, .ref a_told, .ref a_readLaw, .ref a_readNow, .ref a_law, .ref a_now, .ref a_tried, .int m_undoMany', .int m_undoAt', .ref a_undos, .int m_seenMany, .ref a_seenHour, .ref a_seenAt, .ref a_parts, .ref a_partsThen, .int m_keptMany, .ref a_kept])), (a_law, .inl (cI, 22, .inl m_law)), (a_now, .inl (cI, 26, .inl m_now')), (a_tried, .inl (cI, 26, .inl m_tried')), (a_undos, .inl (cI, 208, .inl m_undos'))] rr A) args s 0 0 A := ⟨_, rfl⟩
  rw [← hQ]
  unfold f_X8_share at hF
  refine lv_aload_n hx hb dX8_share_0 rfl (lv_at hl 0 rfl) ?_
  refine lv_iload_n hx hb dX8_share_1 rfl (lv_at hl 1 rfl) ?_
  obtain ⟨r1, hb2, hF⟩ := op_bind hF
  refine xVr (As := [.int i]) (rest := []) hC hP hD hS [0, 1] (c_X8_isPerson l D cI cC cM ax a_law a_text a_told a_readLaw a_readNow a_now a_tried a_undos a_seenHour a_seenAt a_parts a_partsThen a_kept m_letterMany m_readAt m_undoMany m_undoAt m_seenMany m_keptMany m_law i r1 hb2) (cwV 1 hts gX8_share_X8_isPerson rfl rfl rfl ⟨rfl, pd_X8_isPerson⟩ ⟨Nat.le_of_ble_eq_true rfl, Nat.le_of_ble_eq_true rfl⟩) rfl rfl 0 8 rfl rfl rfl rfl hl.1 rfl (Nat.le_of_ble_eq_true rfl) dX8_share_2 ⟨Nat.zero_le _, Nat.zero_le _⟩ (fun H locs hP hS => ?_)
  refine lv_if_eq (tgt := 21) hx hb dX8_share_5 (by decide) (fun c3 => ?_) (fun c3 => ?_)
  · have hF := op_pos c3 hF
    refine lv_iconst (v := (-1 : Int32)) hx hb dX8_share_21 (by decide) ?_
    cases hF
    rw [hQ]
    exact xri hC hP hS dX8_share_22
  · have hF := op_neg c3 hF
    refine lv_aload_n hx hb dX8_share_8 rfl (lv_at hl 0 rfl) ?_
    refine lv_iload_n hx hb dX8_share_9 rfl (lv_at hl 2 rfl) ?_
    obtain ⟨r4, hb5, hF⟩ := op_bind hF
    refine xVr (As := [.int j]) (rest := []) hC hP hD hS [0, 1] (c_X8_isPerson l D cI cC cM ax a_law a_text a_told a_readLaw a_readNow a_now a_tried a_undos a_seenHour a_seenAt a_parts a_partsThen a_kept m_letterMany m_readAt m_undoMany m_undoAt m_seenMany m_keptMany m_law j r4 hb5) (cwV 1 hts gX8_share_X8_isPerson rfl rfl rfl ⟨rfl, pd_X8_isPerson⟩ ⟨Nat.le_of_ble_eq_true rfl, Nat.le_of_ble_eq_true rfl⟩) rfl rfl 0 8 rfl rfl rfl rfl hl.1 rfl (Nat.le_of_ble_eq_true rfl) dX8_share_10 ⟨Nat.zero_le _, Nat.zero_le _⟩ (fun H locs hP hS => ?_)
    refine lv_if_eq (tgt := 21) hx hb dX8_share_13 (by decide) (fun c6 => ?_) (fun c6 => ?_)
    · have hF := op_pos c6 hF
      refine lv_iconst (v := (-1 : Int32)) hx hb dX8_share_21 (by decide) ?_
      cases hF
      rw [hQ]
      exact xri hC hP hS dX8_share_22
    · have hF := op_neg c6 hF
      refine lv_iload_n hx hb dX8_share_16 rfl (lv_at hl 1 rfl) ?_
      refine lv_iload_n hx hb dX8_share_17 rfl (lv_at hl 2 rfl) ?_
      refine lv_icmp_ne (tgt := 23) hx hb dX8_share_18 (by decide) (fun c7 => ?_) (fun c7 => ?_)
      · have hF := op_neg c7 hF
        refine lv_aload_n hx hb dX8_share_23 rfl (lv_at hl 0 rfl) ?_
        obtain ⟨m_tried_8, hb9, hF⟩ := op_bind hF
        refine xVv (As := []) (rest := []) hC hP hD hS [0, 2, 3] (c_X8_copyNow l D cI cC cM ax a_now a_tried a_text a_told a_readLaw a_readNow a_law a_undos a_seenHour a_seenAt a_parts a_partsThen a_kept m_letterMany m_readAt m_undoMany m_undoAt m_seenMany m_keptMany m_now m_tried m_tried_8 hb9) (cwV 0 hts gX8_share_X8_copyNow rfl rfl rfl ⟨rfl, pd_X8_copyNow⟩ ⟨Nat.le_of_ble_eq_true rfl, Nat.le_of_ble_eq_true rfl⟩) rfl rfl rfl 0 8 rfl rfl rfl rfl hl.1 rfl (Nat.le_of_ble_eq_true rfl) dX8_share_24 ⟨Nat.zero_le _, Nat.zero_le _⟩ (fun H locs hP hD hS => ?_)
        have hP : va_P D vwCl [(ax, .inr (8, [.int m_letterMany, .ref a_text, .int m_readAt, .ref a_told, .ref a_readLaw, .ref a_readNow, .ref a_law, .ref a_now, .ref a_tried, .int m_undoMany, .int m_undoAt, .ref a_undos, .int m_seenMany, .ref a_seenHour, .ref a_seenAt, .ref a_parts, .ref a_partsThen, .int m_keptMany, .ref a_kept])), (a_law, .inl (cI, 22, .inl m_law)), (a_now, .inl (cI, 26, .inl m_now)), (a_tried, .inl (cI, 26, .inl m_tried_8)), (a_undos, .inl (cI, 208, .inl m_undos))] H := hP
        have hD : va_D A [(ax, .inr (8, [.int m_letterMany, .ref a_text, .int m_readAt, .ref a_told, .ref a_readLaw, .ref a_readNow, .ref a_law, .ref a_now, .ref a_tried, .int m_undoMany, .int m_undoAt, .ref a_undos, .int m_seenMany, .ref a_seenHour, .ref a_seenAt, .ref a_parts, .ref a_partsThen, .int m_keptMany, .ref a_kept])), (a_law, .inl (cI, 22, .inl m_law)), (a_now, .inl (cI, 26, .inl m_now)), (a_tried, .inl (cI, 26, .inl m_tried_8)), (a_undos, .inl (cI, 208, .inl m_undos))] := hD
        refine lv_aload_n hx hb dX8_share_27 rfl (lv_at hl 0 rfl) ?_
        refine lv_aload_n hx hb dX8_share_28 rfl (lv_at hl 0 rfl) ?_
        refine lv_aload_n hx hb dX8_share_29 rfl (lv_at hl 0 rfl) ?_
        refine va_get (D := D) (ci := 8) (v := .ref a_now) (C := RX8) (T := TX8) (N := 19) hx hb hts iX8 hown hK hP 0 rfl rfl 7 (by decide) k_f25 (fun _ h9 => h9) rfl dX8_share_30 ?_
        refine lv_iload_n hx hb dX8_share_33 rfl (lv_at hl 1 rfl) ?_
        refine lv_iload_n hx hb dX8_share_34 rfl (lv_at hl 2 rfl) ?_
        obtain ⟨⟨r10, o_11⟩, hb12, hF⟩ := op_bind hF
        refine xVi (As := [.ref a_now, .int i, .int j]) (rest := [.ref ax]) hC hP hD hS [0, 1, 2] (c_X8_shares l D cI cC cM ax a_law a_now a_text a_told a_readLaw a_readNow a_now a_tried a_undos a_seenHour a_seenAt a_parts a_partsThen a_kept m_letterMany m_readAt m_undoMany m_undoAt m_seenMany m_keptMany m_law m_now i j r10 o_11 hb12) (cwV 3 hts gX8_share_X8_shares rfl rfl rfl ⟨rfl, pd_X8_shares⟩ ⟨Nat.le_of_ble_eq_true rfl, Nat.le_of_ble_eq_true rfl⟩) rfl rfl rfl 0 8 rfl rfl rfl rfl hl.1 rfl (Nat.le_of_ble_eq_true rfl) dX8_share_35 ⟨Nat.zero_le _, Nat.zero_le _⟩ (fun H locs hP hD hS => ?_)
        have hP : va_P D vwCl [(ax, .inr (8, [.int m_letterMany, .ref a_text, .int m_readAt, .ref a_told, .ref a_readLaw, .ref a_readNow, .ref a_law, .ref a_now, .ref a_tried, .int m_undoMany, .int m_undoAt, .ref a_undos, .int m_seenMany, .ref a_seenHour, .ref a_seenAt, .ref a_parts, .ref a_partsThen, .int m_keptMany, .ref a_kept])), (a_law, .inl (cI, 22, .inl m_law)), (a_now, .inl (cI, 26, .inl o_11)), (a_tried, .inl (cI, 26, .inl m_tried_8)), (a_undos, .inl (cI, 208, .inl m_undos))] H := hP
        have hD : va_D A [(ax, .inr (8, [.int m_letterMany, .ref a_text, .int m_readAt, .ref a_told, .ref a_readLaw, .ref a_readNow, .ref a_law, .ref a_now, .ref a_tried, .int m_undoMany, .int m_undoAt, .ref a_undos, .int m_seenMany, .ref a_seenHour, .ref a_seenAt, .ref a_parts, .ref a_partsThen, .int m_keptMany, .ref a_kept])), (a_law, .inl (cI, 22, .inl m_law)), (a_now, .inl (cI, 26, .inl o_11)), (a_tried, .inl (cI, 26, .inl m_tried_8)), (a_undos, .inl (cI, 208, .inl m_undos))] := hD
        refine lv_aload_n hx hb dX8_share_38 rfl (lv_at hl 0 rfl) ?_
        refine va_get (D := D) (ci := 8) (v := .ref a_now) (C := RX8) (T := TX8) (N := 19) hx hb hts iX8 hown hK hP 0 rfl rfl 7 (by decide) k_f25 (fun _ h9 => h9) rfl dX8_share_39 ?_
        refine lv_bipush (v := (21 : Int32)) hx hb dX8_share_42 (by decide) ?_
        refine lv_iload_n hx hb dX8_share_44 rfl (lv_at hl 2 rfl) ?_
        refine lv_iadd hx hb dX8_share_45 ?_
        obtain ⟨o13, hF⟩ := op_ob hF
        refine va_iald hx hb hK hP 2 0 rfl rfl (okb_in o13) dX8_share_46 ?_
        obtain ⟨⟨r14, m_undoMany_15, m_undoAt_16, m_undos_17⟩, hb18, hF⟩ := op_bind hF
        refine xVi (As := [.int r10, .int (o_11 ((21 : Int32) + j).toNatClampNeg)]) (rest := []) hC hP hD hS [0, 3, 4] (c_X8_done l D cI cC cM ax a_tried a_undos a_text a_told a_readLaw a_readNow a_law a_now a_seenHour a_seenAt a_parts a_partsThen a_kept m_letterMany m_readAt m_undoMany m_undoAt m_seenMany m_keptMany m_tried_8 m_undos r10 (o_11 ((21 : Int32) + j).toNatClampNeg) r14 m_undoMany_15 m_undoAt_16 m_undos_17 hb18) (cwV 2 hts gX8_share_X8_done rfl rfl rfl ⟨rfl, pd_X8_done⟩ ⟨Nat.le_of_ble_eq_true rfl, Nat.le_of_ble_eq_true rfl⟩) rfl rfl rfl 0 8 rfl rfl rfl rfl hl.1 rfl (Nat.le_of_ble_eq_true rfl) dX8_share_47 ⟨Nat.zero_le _, Nat.zero_le _⟩ (fun H locs hP hD hS => ?_)
        have hP : va_P D vwCl [(ax, .inr (8, [.int m_letterMany, .ref a_text, .int m_readAt, .ref a_told, .ref a_readLaw, .ref a_readNow, .ref a_law, .ref a_now, .ref a_tried, .int m_undoMany_15, .int m_undoAt_16, .ref a_undos, .int m_seenMany, .ref a_seenHour, .ref a_seenAt, .ref a_parts, .ref a_partsThen, .int m_keptMany, .ref a_kept])), (a_law, .inl (cI, 22, .inl m_law)), (a_now, .inl (cI, 26, .inl o_11)), (a_tried, .inl (cI, 26, .inl m_tried_8)), (a_undos, .inl (cI, 208, .inl m_undos_17))] H := hP
        have hD : va_D A [(ax, .inr (8, [.int m_letterMany, .ref a_text, .int m_readAt, .ref a_told, .ref a_readLaw, .ref a_readNow, .ref a_law, .ref a_now, .ref a_tried, .int m_undoMany_15, .int m_undoAt_16, .ref a_undos, .int m_seenMany, .ref a_seenHour, .ref a_seenAt, .ref a_parts, .ref a_partsThen, .int m_keptMany, .ref a_kept])), (a_law, .inl (cI, 22, .inl m_law)), (a_now, .inl (cI, 26, .inl o_11)), (a_tried, .inl (cI, 26, .inl m_tried_8)), (a_undos, .inl (cI, 208, .inl m_undos_17))] := hD
        cases hF
        rw [hQ]
        exact xri hC hP hS dX8_share_50
      · have hF := op_pos c7 hF
        refine lv_iconst (v := (-1 : Int32)) hx hb dX8_share_21 (by decide) ?_
        cases hF
        rw [hQ]
        exact xri hC hP hS dX8_share_22

def f_X8_give (m_undoMany : Int32) (m_undoAt : Int32) (m_law : (Nat → Int32)) (m_now : (Nat → Int32)) (m_tried : (Nat → Int32)) (m_undos : (Nat → Int32)) (i : Int32) : Option (Int32 × Int32 × Int32 × (Nat → Int32) × (Nat → Int32) × (Nat → Int32)) := (Option.bind (f_X8_isPerson m_law i) fun r1 => (if r1 = 0 then (some ((-1 : Int32), m_undoMany, m_undoAt, m_now, m_tried, m_undos)) else (Option.bind (f_X8_copyNow m_now m_tried) fun m_tried_4 => (Option.bind (f_X8_gives m_law m_now i) fun (r6, o_7) => (if okb ((21 : Int32) + i) 26 = true then (Option.bind (f_X8_done m_undoMany m_undoAt m_tried_4 m_undos r6 (m_tried_4 ((21 : Int32) + i).toNatClampNeg)) fun (r10, m_undoMany_11, m_undoAt_12, m_undos_13) => (some (r10, m_undoMany_11, m_undoAt_12, o_7, m_tried_4, m_undos_13))) else none)))))

def rm_X8_give : Room := { frames := 2, cells := 0, slots := 0, locals := 47 }

theorem pd_X8_give : yX8_give.cls ≠ "java/lang/invoke/MethodHandle" ∧ yX8_give.cls ≠ "java/lang/invoke/VarHandle" ∧ (parseMethodDescriptor yX8_give.desc).map (fun d => d.parameters.length) = some 1 := by decide +kernel

set_option maxHeartbeats 4000000 in
set_option maxRecDepth 100000 in
theorem c_X8_give (l : Launch) (D : va_G) (cI cC cM : ClassId) (ax a_law a_now a_tried a_undos a_text a_told a_readLaw a_readNow a_seenHour a_seenAt a_parts a_partsThen a_kept : Nat) (m_letterMany : Int32) (m_readAt : Int32) (m_undoMany : Int32) (m_undoAt : Int32) (m_seenMany : Int32) (m_keptMany : Int32) (m_law : (Nat → Int32)) (m_now : (Nat → Int32)) (m_tried : (Nat → Int32)) (m_undos : (Nat → Int32)) (i : Int32) (rr : Int32) (m_undoMany' : Int32) (m_undoAt' : Int32) (m_now' : (Nat → Int32)) (m_tried' : (Nat → Int32)) (m_undos' : (Nat → Int32)) (hF : f_X8_give m_undoMany m_undoAt m_law m_now m_tried m_undos i = some (rr, m_undoMany', m_undoAt', m_now', m_tried', m_undos')) : CI l D cI cC cM yX8_give wsX8_give rm_X8_give [.ref ax, .int i] [(ax, .inr (8, [.int m_letterMany, .ref a_text, .int m_readAt, .ref a_told, .ref a_readLaw, .ref a_readNow, .ref a_law, .ref a_now, .ref a_tried, .int m_undoMany, .int m_undoAt, .ref a_undos, .int m_seenMany, .ref a_seenHour, .ref a_seenAt, .ref a_parts, .ref a_partsThen, .int m_keptMany, .ref a_kept])), (a_law, .inl (cI, 22, .inl m_law)), (a_now, .inl (cI, 26, .inl m_now)), (a_tried, .inl (cI, 26, .inl m_tried)), (a_undos, .inl (cI, 208, .inl m_undos))] [(ax, .inr (8, [.int m_letterMany, .ref a_text, .int m_readAt, .ref a_told, .ref a_readLaw, .ref a_readNow, .ref a_law, .ref a_now, .ref a_tried, .int m_undoMany', .int m_undoAt', .ref a_undos, .int m_seenMany, .ref a_seenHour, .ref a_seenAt, .ref a_parts, .ref a_partsThen, .int m_keptMany, .ref a_kept])), (a_law, .inl (cI, 22, .inl m_law)), (a_now, .inl (cI, 26, .inl m_now')), (a_tried, .inl (cI, 26, .inl m_tried')), (a_undos, .inl (cI, 208, .inl m_undos'))] rr := by
  refine CI.of (cc := cX8_give) (nL := 2) (ret := (some .int)) (by decide) rfl (Nat.le_of_ble_eq_true rfl) ?_
  intro p e s m args below meth c A hC hP hD hS ls hl
  obtain ⟨hx, hb, hml, hown, hts, hr, hlk, hG, hA⟩ := id hC
  have hown : s.vm.findClass RX8 = some m.cls := hown
  have hK := hG.1
  have hl : lv_has ls 2 [(0, .ref ax), (1, .int i)] := hl
  have k_f25 := hts (.fieldLink RX8 25 "ParasolHoursModel" "now" "[I") (List.mem_of_getElem? (i := 1) rfl)
  have k_f28 := hts (.fieldLink RX8 28 "ParasolHoursModel" "tried" "[I") (List.mem_of_getElem? (i := 2) rfl)
  have iX8 : ∀ w ∈ wsX80, w ∈ wsX8_give := by decide +kernel
  obtain ⟨Q, hQ⟩ : ∃ Q, Q = MQ below (QI D [(ax, .inr (8, [.int m_letterMany, .ref a_text, .int m_readAt, .ref a_told, .ref a_readLaw, .ref a_readNow, .ref a_law, .ref a_now, .ref a_tried, .int m_undoMany', .int m_undoAt', .ref a_undos, .int m_seenMany, .ref a_seenHour, .ref a_seenAt, .ref a_parts, .ref a_partsThen, .int m_keptMany, .ref a_kept])), (a_law, .inl (cI, 22, .inl m_law)), (a_now, .inl (cI, 26, .inl m_now')), (a_tried, .inl (cI, 26, .inl m_tried')), (a_undos, .inl (cI, 208, .inl m_undos'))] rr A) args s 0 0 A := ⟨_, rfl⟩
  rw [← hQ]
  unfold f_X8_give at hF
  refine lv_aload_n hx hb dX8_give_0 rfl (lv_at hl 0 rfl) ?_
  refine lv_iload_n hx hb dX8_give_1 rfl (lv_at hl 1 rfl) ?_
  obtain ⟨r1, hb2, hF⟩ := op_bind hF
  refine xVr (As := [.int i]) (rest := []) hC hP hD hS [0, 1] (c_X8_isPerson l D cI cC cM ax a_law a_text a_told a_readLaw a_readNow a_now a_tried a_undos a_seenHour a_seenAt a_parts a_partsThen a_kept m_letterMany m_readAt m_undoMany m_undoAt m_seenMany m_keptMany m_law i r1 hb2) (cwV 1 hts gX8_give_X8_isPerson rfl rfl rfl ⟨rfl, pd_X8_isPerson⟩ ⟨Nat.le_of_ble_eq_true rfl, Nat.le_of_ble_eq_true rfl⟩) rfl rfl 0 8 rfl rfl rfl rfl hl.1 rfl (Nat.le_of_ble_eq_true rfl) dX8_give_2 ⟨Nat.zero_le _, Nat.zero_le _⟩ (fun H locs hP hS => ?_)
  refine lv_if_ne (tgt := 10) hx hb dX8_give_5 (by decide) (fun c3 => ?_) (fun c3 => ?_)
  · have hF := op_neg c3 hF
    refine lv_aload_n hx hb dX8_give_10 rfl (lv_at hl 0 rfl) ?_
    obtain ⟨m_tried_4, hb5, hF⟩ := op_bind hF
    refine xVv (As := []) (rest := []) hC hP hD hS [0, 2, 3] (c_X8_copyNow l D cI cC cM ax a_now a_tried a_text a_told a_readLaw a_readNow a_law a_undos a_seenHour a_seenAt a_parts a_partsThen a_kept m_letterMany m_readAt m_undoMany m_undoAt m_seenMany m_keptMany m_now m_tried m_tried_4 hb5) (cwV 0 hts gX8_give_X8_copyNow rfl rfl rfl ⟨rfl, pd_X8_copyNow⟩ ⟨Nat.le_of_ble_eq_true rfl, Nat.le_of_ble_eq_true rfl⟩) rfl rfl rfl 0 8 rfl rfl rfl rfl hl.1 rfl (Nat.le_of_ble_eq_true rfl) dX8_give_11 ⟨Nat.zero_le _, Nat.zero_le _⟩ (fun H locs hP hD hS => ?_)
    have hP : va_P D vwCl [(ax, .inr (8, [.int m_letterMany, .ref a_text, .int m_readAt, .ref a_told, .ref a_readLaw, .ref a_readNow, .ref a_law, .ref a_now, .ref a_tried, .int m_undoMany, .int m_undoAt, .ref a_undos, .int m_seenMany, .ref a_seenHour, .ref a_seenAt, .ref a_parts, .ref a_partsThen, .int m_keptMany, .ref a_kept])), (a_law, .inl (cI, 22, .inl m_law)), (a_now, .inl (cI, 26, .inl m_now)), (a_tried, .inl (cI, 26, .inl m_tried_4)), (a_undos, .inl (cI, 208, .inl m_undos))] H := hP
    have hD : va_D A [(ax, .inr (8, [.int m_letterMany, .ref a_text, .int m_readAt, .ref a_told, .ref a_readLaw, .ref a_readNow, .ref a_law, .ref a_now, .ref a_tried, .int m_undoMany, .int m_undoAt, .ref a_undos, .int m_seenMany, .ref a_seenHour, .ref a_seenAt, .ref a_parts, .ref a_partsThen, .int m_keptMany, .ref a_kept])), (a_law, .inl (cI, 22, .inl m_law)), (a_now, .inl (cI, 26, .inl m_now)), (a_tried, .inl (cI, 26, .inl m_tried_4)), (a_undos, .inl (cI, 208, .inl m_undos))] := hD
    refine lv_aload_n hx hb dX8_give_14 rfl (lv_at hl 0 rfl) ?_
    refine lv_aload_n hx hb dX8_give_15 rfl (lv_at hl 0 rfl) ?_
    refine lv_aload_n hx hb dX8_give_16 rfl (lv_at hl 0 rfl) ?_
    refine va_get (D := D) (ci := 8) (v := .ref a_now) (C := RX8) (T := TX8) (N := 19) hx hb hts iX8 hown hK hP 0 rfl rfl 7 (by decide) k_f25 (fun _ h9 => h9) rfl dX8_give_17 ?_
    refine lv_iload_n hx hb dX8_give_20 rfl (lv_at hl 1 rfl) ?_
    obtain ⟨⟨r6, o_7⟩, hb8, hF⟩ := op_bind hF
    refine xVi (As := [.ref a_now, .int i]) (rest := [.ref ax]) hC hP hD hS [0, 1, 2] (c_X8_gives l D cI cC cM ax a_law a_now a_text a_told a_readLaw a_readNow a_now a_tried a_undos a_seenHour a_seenAt a_parts a_partsThen a_kept m_letterMany m_readAt m_undoMany m_undoAt m_seenMany m_keptMany m_law m_now i r6 o_7 hb8) (cwV 2 hts gX8_give_X8_gives rfl rfl rfl ⟨rfl, pd_X8_gives⟩ ⟨Nat.le_of_ble_eq_true rfl, Nat.le_of_ble_eq_true rfl⟩) rfl rfl rfl 0 8 rfl rfl rfl rfl hl.1 rfl (Nat.le_of_ble_eq_true rfl) dX8_give_21 ⟨Nat.zero_le _, Nat.zero_le _⟩ (fun H locs hP hD hS => ?_)
    have hP : va_P D vwCl [(ax, .inr (8, [.int m_letterMany, .ref a_text, .int m_readAt, .ref a_told, .ref a_readLaw, .ref a_readNow, .ref a_law, .ref a_now, .ref a_tried, .int m_undoMany, .int m_undoAt, .ref a_undos, .int m_seenMany, .ref a_seenHour, .ref a_seenAt, .ref a_parts, .ref a_partsThen, .int m_keptMany, .ref a_kept])), (a_law, .inl (cI, 22, .inl m_law)), (a_now, .inl (cI, 26, .inl o_7)), (a_tried, .inl (cI, 26, .inl m_tried_4)), (a_undos, .inl (cI, 208, .inl m_undos))] H := hP
    have hD : va_D A [(ax, .inr (8, [.int m_letterMany, .ref a_text, .int m_readAt, .ref a_told, .ref a_readLaw, .ref a_readNow, .ref a_law, .ref a_now, .ref a_tried, .int m_undoMany, .int m_undoAt, .ref a_undos, .int m_seenMany, .ref a_seenHour, .ref a_seenAt, .ref a_parts, .ref a_partsThen, .int m_keptMany, .ref a_kept])), (a_law, .inl (cI, 22, .inl m_law)), (a_now, .inl (cI, 26, .inl o_7)), (a_tried, .inl (cI, 26, .inl m_tried_4)), (a_undos, .inl (cI, 208, .inl m_undos))] := hD
    refine lv_aload_n hx hb dX8_give_24 rfl (lv_at hl 0 rfl) ?_
    refine va_get (D := D) (ci := 8) (v := .ref a_tried) (C := RX8) (T := TX8) (N := 19) hx hb hts iX8 hown hK hP 0 rfl rfl 8 (by decide) k_f28 (fun _ h9 => h9) rfl dX8_give_25 ?_
    refine lv_bipush (v := (21 : Int32)) hx hb dX8_give_28 (by decide) ?_
    refine lv_iload_n hx hb dX8_give_30 rfl (lv_at hl 1 rfl) ?_
    refine lv_iadd hx hb dX8_give_31 ?_
    obtain ⟨o9, hF⟩ := op_ob hF
    refine va_iald hx hb hK hP 3 0 rfl rfl (okb_in o9) dX8_give_32 ?_
    obtain ⟨⟨r10, m_undoMany_11, m_undoAt_12, m_undos_13⟩, hb14, hF⟩ := op_bind hF
    refine xVi (As := [.int r6, .int (m_tried_4 ((21 : Int32) + i).toNatClampNeg)]) (rest := []) hC hP hD hS [0, 3, 4] (c_X8_done l D cI cC cM ax a_tried a_undos a_text a_told a_readLaw a_readNow a_law a_now a_seenHour a_seenAt a_parts a_partsThen a_kept m_letterMany m_readAt m_undoMany m_undoAt m_seenMany m_keptMany m_tried_4 m_undos r6 (m_tried_4 ((21 : Int32) + i).toNatClampNeg) r10 m_undoMany_11 m_undoAt_12 m_undos_13 hb14) (cwV 2 hts gX8_give_X8_done rfl rfl rfl ⟨rfl, pd_X8_done⟩ ⟨Nat.le_of_ble_eq_true rfl, Nat.le_of_ble_eq_true rfl⟩) rfl rfl rfl 0 8 rfl rfl rfl rfl hl.1 rfl (Nat.le_of_ble_eq_true rfl) dX8_give_33 ⟨Nat.zero_le _, Nat.zero_le _⟩ (fun H locs hP hD hS => ?_)
    have hP : va_P D vwCl [(ax, .inr (8, [.int m_letterMany, .ref a_text, .int m_readAt, .ref a_told, .ref a_readLaw, .ref a_readNow, .ref a_law, .ref a_now, .ref a_tried, .int m_undoMany_11, .int m_undoAt_12, .ref a_undos, .int m_seenMany, .ref a_seenHour, .ref a_seenAt, .ref a_parts, .ref a_partsThen, .int m_keptMany, .ref a_kept])), (a_law, .inl (cI, 22, .inl m_law)), (a_now, .inl (cI, 26, .inl o_7)), (a_tried, .inl (cI, 26, .inl m_tried_4)), (a_undos, .inl (cI, 208, .inl m_undos_13))] H := hP
    have hD : va_D A [(ax, .inr (8, [.int m_letterMany, .ref a_text, .int m_readAt, .ref a_told, .ref a_readLaw, .ref a_readNow, .ref a_law, .ref a_now, .ref a_tried, .int m_undoMany_11, .int m_undoAt_12, .ref a_undos, .int m_seenMany, .ref a_seenHour, .ref a_seenAt, .ref a_parts, .ref a_partsThen, .int m_keptMany, .ref a_kept])), (a_law, .inl (cI, 22, .inl m_law)), (a_now, .inl (cI, 26, .inl o_7)), (a_tried, .inl (cI, 26, .inl m_tried_4)), (a_undos, .inl (cI, 208, .inl m_undos_13))] := hD
    cases hF
    rw [hQ]
    exact xri hC hP hS dX8_give_36
  · have hF := op_pos c3 hF
    refine lv_iconst (v := (-1 : Int32)) hx hb dX8_give_8 (by decide) ?_
    cases hF
    rw [hQ]
    exact xri hC hP hS dX8_give_9

def f_X8_walk (m_undoMany : Int32) (m_undoAt : Int32) (m_law : (Nat → Int32)) (m_now : (Nat → Int32)) (m_tried : (Nat → Int32)) (m_undos : (Nat → Int32)) (i : Int32) (w : Int32) : Option (Int32 × Int32 × Int32 × (Nat → Int32) × (Nat → Int32) × (Nat → Int32)) := (Option.bind (f_X8_isPerson m_law i) fun r1 => (if r1 = 0 then (some ((-1 : Int32), m_undoMany, m_undoAt, m_now, m_tried, m_undos)) else (Option.bind (f_X8_in w (0 : Int32) (1 : Int32)) fun r4 => (if r4 = 0 then (some ((-1 : Int32), m_undoMany, m_undoAt, m_now, m_tried, m_undos)) else (Option.bind (f_X8_copyNow m_now m_tried) fun m_tried_7 => (Option.bind (f_X8_walks m_law m_now i w) fun (r9, o_10) => (if okb ((16 : Int32) + i) 26 = true then (Option.bind (f_X8_done m_undoMany m_undoAt m_tried_7 m_undos r9 (o_10 ((16 : Int32) + i).toNatClampNeg)) fun (r13, m_undoMany_14, m_undoAt_15, m_undos_16) => (some (r13, m_undoMany_14, m_undoAt_15, o_10, m_tried_7, m_undos_16))) else none)))))))

def rm_X8_walk : Room := { frames := 2, cells := 0, slots := 0, locals := 48 }

theorem pd_X8_walk : yX8_walk.cls ≠ "java/lang/invoke/MethodHandle" ∧ yX8_walk.cls ≠ "java/lang/invoke/VarHandle" ∧ (parseMethodDescriptor yX8_walk.desc).map (fun d => d.parameters.length) = some 2 := by decide +kernel

set_option maxHeartbeats 4000000 in
set_option maxRecDepth 100000 in
theorem c_X8_walk (l : Launch) (D : va_G) (cI cC cM : ClassId) (ax a_law a_now a_tried a_undos a_text a_told a_readLaw a_readNow a_seenHour a_seenAt a_parts a_partsThen a_kept : Nat) (m_letterMany : Int32) (m_readAt : Int32) (m_undoMany : Int32) (m_undoAt : Int32) (m_seenMany : Int32) (m_keptMany : Int32) (m_law : (Nat → Int32)) (m_now : (Nat → Int32)) (m_tried : (Nat → Int32)) (m_undos : (Nat → Int32)) (i : Int32) (w : Int32) (rr : Int32) (m_undoMany' : Int32) (m_undoAt' : Int32) (m_now' : (Nat → Int32)) (m_tried' : (Nat → Int32)) (m_undos' : (Nat → Int32)) (hF : f_X8_walk m_undoMany m_undoAt m_law m_now m_tried m_undos i w = some (rr, m_undoMany', m_undoAt', m_now', m_tried', m_undos')) : CI l D cI cC cM yX8_walk wsX8_walk rm_X8_walk [.ref ax, .int i, .int w] [(ax, .inr (8, [.int m_letterMany, .ref a_text, .int m_readAt, .ref a_told, .ref a_readLaw, .ref a_readNow, .ref a_law, .ref a_now, .ref a_tried, .int m_undoMany, .int m_undoAt, .ref a_undos, .int m_seenMany, .ref a_seenHour, .ref a_seenAt, .ref a_parts, .ref a_partsThen, .int m_keptMany, .ref a_kept])), (a_law, .inl (cI, 22, .inl m_law)), (a_now, .inl (cI, 26, .inl m_now)), (a_tried, .inl (cI, 26, .inl m_tried)), (a_undos, .inl (cI, 208, .inl m_undos))] [(ax, .inr (8, [.int m_letterMany, .ref a_text, .int m_readAt, .ref a_told, .ref a_readLaw, .ref a_readNow, .ref a_law, .ref a_now, .ref a_tried, .int m_undoMany', .int m_undoAt', .ref a_undos, .int m_seenMany, .ref a_seenHour, .ref a_seenAt, .ref a_parts, .ref a_partsThen, .int m_keptMany, .ref a_kept])), (a_law, .inl (cI, 22, .inl m_law)), (a_now, .inl (cI, 26, .inl m_now')), (a_tried, .inl (cI, 26, .inl m_tried')), (a_undos, .inl (cI, 208, .inl m_undos'))] rr := by
  refine CI.of (cc := cX8_walk) (nL := 4) (ret := (some .int)) (by decide) rfl (Nat.le_of_ble_eq_true rfl) ?_
  intro p e s m args below meth c A hC hP hD hS ls hl
  obtain ⟨hx, hb, hml, hown, hts, hr, hlk, hG, hA⟩ := id hC
  have hown : s.vm.findClass RX8 = some m.cls := hown
  have hK := hG.1
  have hl : lv_has ls 4 [(0, .ref ax), (1, .int i), (2, .int w)] := hl
  have k_f25 := hts (.fieldLink RX8 25 "ParasolHoursModel" "now" "[I") (List.mem_of_getElem? (i := 1) rfl)
  have iX8 : ∀ w ∈ wsX80, w ∈ wsX8_walk := by decide +kernel
  obtain ⟨Q, hQ⟩ : ∃ Q, Q = MQ below (QI D [(ax, .inr (8, [.int m_letterMany, .ref a_text, .int m_readAt, .ref a_told, .ref a_readLaw, .ref a_readNow, .ref a_law, .ref a_now, .ref a_tried, .int m_undoMany', .int m_undoAt', .ref a_undos, .int m_seenMany, .ref a_seenHour, .ref a_seenAt, .ref a_parts, .ref a_partsThen, .int m_keptMany, .ref a_kept])), (a_law, .inl (cI, 22, .inl m_law)), (a_now, .inl (cI, 26, .inl m_now')), (a_tried, .inl (cI, 26, .inl m_tried')), (a_undos, .inl (cI, 208, .inl m_undos'))] rr A) args s 0 0 A := ⟨_, rfl⟩
  rw [← hQ]
  unfold f_X8_walk at hF
  refine lv_aload_n hx hb dX8_walk_0 rfl (lv_at hl 0 rfl) ?_
  refine lv_iload_n hx hb dX8_walk_1 rfl (lv_at hl 1 rfl) ?_
  obtain ⟨r1, hb2, hF⟩ := op_bind hF
  refine xVr (As := [.int i]) (rest := []) hC hP hD hS [0, 1] (c_X8_isPerson l D cI cC cM ax a_law a_text a_told a_readLaw a_readNow a_now a_tried a_undos a_seenHour a_seenAt a_parts a_partsThen a_kept m_letterMany m_readAt m_undoMany m_undoAt m_seenMany m_keptMany m_law i r1 hb2) (cwV 1 hts gX8_walk_X8_isPerson rfl rfl rfl ⟨rfl, pd_X8_isPerson⟩ ⟨Nat.le_of_ble_eq_true rfl, Nat.le_of_ble_eq_true rfl⟩) rfl rfl 0 8 rfl rfl rfl rfl hl.1 rfl (Nat.le_of_ble_eq_true rfl) dX8_walk_2 ⟨Nat.zero_le _, Nat.zero_le _⟩ (fun H locs hP hS => ?_)
  refine lv_if_eq (tgt := 17) hx hb dX8_walk_5 (by decide) (fun c3 => ?_) (fun c3 => ?_)
  · have hF := op_pos c3 hF
    refine lv_iconst (v := (-1 : Int32)) hx hb dX8_walk_17 (by decide) ?_
    cases hF
    rw [hQ]
    exact xri hC hP hS dX8_walk_18
  · have hF := op_neg c3 hF
    refine lv_iload_n hx hb dX8_walk_8 rfl (lv_at hl 2 rfl) ?_
    refine lv_iconst (v := (0 : Int32)) hx hb dX8_walk_9 (by decide) ?_
    refine lv_iconst (v := (1 : Int32)) hx hb dX8_walk_10 (by decide) ?_
    obtain ⟨r4, hb5, hF⟩ := op_bind hF
    refine xSr (As := [.int w, .int (0 : Int32), .int (1 : Int32)]) (rest := []) hC hP hD hS [] (c_X8_in l D cI cC cM w (0 : Int32) (1 : Int32) r4 hb5) (va_cwS 3 hts gX8_walk_X8_in rfl rfl rfl pd_X8_in ⟨Nat.le_of_ble_eq_true rfl, Nat.le_of_ble_eq_true rfl⟩) rfl rfl rfl hl.1 rfl (Nat.le_of_ble_eq_true rfl) dX8_walk_11 ⟨Nat.zero_le _, Nat.zero_le _⟩ (fun H locs hP hS => ?_)
    refine lv_if_ne (tgt := 19) hx hb dX8_walk_14 (by decide) (fun c6 => ?_) (fun c6 => ?_)
    · have hF := op_neg c6 hF
      refine lv_aload_n hx hb dX8_walk_19 rfl (lv_at hl 0 rfl) ?_
      obtain ⟨m_tried_7, hb8, hF⟩ := op_bind hF
      refine xVv (As := []) (rest := []) hC hP hD hS [0, 2, 3] (c_X8_copyNow l D cI cC cM ax a_now a_tried a_text a_told a_readLaw a_readNow a_law a_undos a_seenHour a_seenAt a_parts a_partsThen a_kept m_letterMany m_readAt m_undoMany m_undoAt m_seenMany m_keptMany m_now m_tried m_tried_7 hb8) (cwV 0 hts gX8_walk_X8_copyNow rfl rfl rfl ⟨rfl, pd_X8_copyNow⟩ ⟨Nat.le_of_ble_eq_true rfl, Nat.le_of_ble_eq_true rfl⟩) rfl rfl rfl 0 8 rfl rfl rfl rfl hl.1 rfl (Nat.le_of_ble_eq_true rfl) dX8_walk_20 ⟨Nat.zero_le _, Nat.zero_le _⟩ (fun H locs hP hD hS => ?_)
      have hP : va_P D vwCl [(ax, .inr (8, [.int m_letterMany, .ref a_text, .int m_readAt, .ref a_told, .ref a_readLaw, .ref a_readNow, .ref a_law, .ref a_now, .ref a_tried, .int m_undoMany, .int m_undoAt, .ref a_undos, .int m_seenMany, .ref a_seenHour, .ref a_seenAt, .ref a_parts, .ref a_partsThen, .int m_keptMany, .ref a_kept])), (a_law, .inl (cI, 22, .inl m_law)), (a_now, .inl (cI, 26, .inl m_now)), (a_tried, .inl (cI, 26, .inl m_tried_7)), (a_undos, .inl (cI, 208, .inl m_undos))] H := hP
      have hD : va_D A [(ax, .inr (8, [.int m_letterMany, .ref a_text, .int m_readAt, .ref a_told, .ref a_readLaw, .ref a_readNow, .ref a_law, .ref a_now, .ref a_tried, .int m_undoMany, .int m_undoAt, .ref a_undos, .int m_seenMany, .ref a_seenHour, .ref a_seenAt, .ref a_parts, .ref a_partsThen, .int m_keptMany, .ref a_kept])), (a_law, .inl (cI, 22, .inl m_law)), (a_now, .inl (cI, 26, .inl m_now)), (a_tried, .inl (cI, 26, .inl m_tried_7)), (a_undos, .inl (cI, 208, .inl m_undos))] := hD
      refine lv_aload_n hx hb dX8_walk_23 rfl (lv_at hl 0 rfl) ?_
      refine lv_aload_n hx hb dX8_walk_24 rfl (lv_at hl 0 rfl) ?_
      refine va_get (D := D) (ci := 8) (v := .ref a_now) (C := RX8) (T := TX8) (N := 19) hx hb hts iX8 hown hK hP 0 rfl rfl 7 (by decide) k_f25 (fun _ h9 => h9) rfl dX8_walk_25 ?_
      refine lv_iload_n hx hb dX8_walk_28 rfl (lv_at hl 1 rfl) ?_
      refine lv_iload_n hx hb dX8_walk_29 rfl (lv_at hl 2 rfl) ?_
      obtain ⟨⟨r9, o_10⟩, hb11, hF⟩ := op_bind hF
      refine xVi (As := [.ref a_now, .int i, .int w]) (rest := []) hC hP hD hS [0, 1, 2] (c_X8_walks l D cI cC cM ax a_law a_now a_text a_told a_readLaw a_readNow a_now a_tried a_undos a_seenHour a_seenAt a_parts a_partsThen a_kept m_letterMany m_readAt m_undoMany m_undoAt m_seenMany m_keptMany m_law m_now i w r9 o_10 hb11) (cwV 3 hts gX8_walk_X8_walks rfl rfl rfl ⟨rfl, pd_X8_walks⟩ ⟨Nat.le_of_ble_eq_true rfl, Nat.le_of_ble_eq_true rfl⟩) rfl rfl rfl 0 8 rfl rfl rfl rfl hl.1 rfl (Nat.le_of_ble_eq_true rfl) dX8_walk_30 ⟨Nat.zero_le _, Nat.zero_le _⟩ (fun H locs hP hD hS => ?_)
      have hP : va_P D vwCl [(ax, .inr (8, [.int m_letterMany, .ref a_text, .int m_readAt, .ref a_told, .ref a_readLaw, .ref a_readNow, .ref a_law, .ref a_now, .ref a_tried, .int m_undoMany, .int m_undoAt, .ref a_undos, .int m_seenMany, .ref a_seenHour, .ref a_seenAt, .ref a_parts, .ref a_partsThen, .int m_keptMany, .ref a_kept])), (a_law, .inl (cI, 22, .inl m_law)), (a_now, .inl (cI, 26, .inl o_10)), (a_tried, .inl (cI, 26, .inl m_tried_7)), (a_undos, .inl (cI, 208, .inl m_undos))] H := hP
      have hD : va_D A [(ax, .inr (8, [.int m_letterMany, .ref a_text, .int m_readAt, .ref a_told, .ref a_readLaw, .ref a_readNow, .ref a_law, .ref a_now, .ref a_tried, .int m_undoMany, .int m_undoAt, .ref a_undos, .int m_seenMany, .ref a_seenHour, .ref a_seenAt, .ref a_parts, .ref a_partsThen, .int m_keptMany, .ref a_kept])), (a_law, .inl (cI, 22, .inl m_law)), (a_now, .inl (cI, 26, .inl o_10)), (a_tried, .inl (cI, 26, .inl m_tried_7)), (a_undos, .inl (cI, 208, .inl m_undos))] := hD
      refine lv_istore_n (lv' := [(3, .int r9), (0, .ref ax), (1, .int i), (2, .int w)]) hx hb dX8_walk_33 rfl hl (by decide) rfl (fun ls hl => ?_)
      refine lv_aload_n hx hb dX8_walk_34 rfl (lv_at hl 1 rfl) ?_
      refine lv_iload_n hx hb dX8_walk_35 rfl (lv_at hl 0 rfl) ?_
      refine lv_aload_n hx hb dX8_walk_36 rfl (lv_at hl 1 rfl) ?_
      refine va_get (D := D) (ci := 8) (v := .ref a_now) (C := RX8) (T := TX8) (N := 19) hx hb hts iX8 hown hK hP 0 rfl rfl 7 (by decide) k_f25 (fun _ h9 => h9) rfl dX8_walk_37 ?_
      refine lv_bipush (v := (16 : Int32)) hx hb dX8_walk_40 (by decide) ?_
      refine lv_iload_n hx hb dX8_walk_42 rfl (lv_at hl 2 rfl) ?_
      refine lv_iadd hx hb dX8_walk_43 ?_
      obtain ⟨o12, hF⟩ := op_ob hF
      refine va_iald hx hb hK hP 2 0 rfl rfl (okb_in o12) dX8_walk_44 ?_
      obtain ⟨⟨r13, m_undoMany_14, m_undoAt_15, m_undos_16⟩, hb17, hF⟩ := op_bind hF
      refine xVi (As := [.int r9, .int (o_10 ((16 : Int32) + i).toNatClampNeg)]) (rest := []) hC hP hD hS [0, 3, 4] (c_X8_done l D cI cC cM ax a_tried a_undos a_text a_told a_readLaw a_readNow a_law a_now a_seenHour a_seenAt a_parts a_partsThen a_kept m_letterMany m_readAt m_undoMany m_undoAt m_seenMany m_keptMany m_tried_7 m_undos r9 (o_10 ((16 : Int32) + i).toNatClampNeg) r13 m_undoMany_14 m_undoAt_15 m_undos_16 hb17) (cwV 2 hts gX8_walk_X8_done rfl rfl rfl ⟨rfl, pd_X8_done⟩ ⟨Nat.le_of_ble_eq_true rfl, Nat.le_of_ble_eq_true rfl⟩) rfl rfl rfl 0 8 rfl rfl rfl rfl hl.1 rfl (Nat.le_of_ble_eq_true rfl) dX8_walk_45 ⟨Nat.zero_le _, Nat.zero_le _⟩ (fun H locs hP hD hS => ?_)
      have hP : va_P D vwCl [(ax, .inr (8, [.int m_letterMany, .ref a_text, .int m_readAt, .ref a_told, .ref a_readLaw, .ref a_readNow, .ref a_law, .ref a_now, .ref a_tried, .int m_undoMany_14, .int m_undoAt_15, .ref a_undos, .int m_seenMany, .ref a_seenHour, .ref a_seenAt, .ref a_parts, .ref a_partsThen, .int m_keptMany, .ref a_kept])), (a_law, .inl (cI, 22, .inl m_law)), (a_now, .inl (cI, 26, .inl o_10)), (a_tried, .inl (cI, 26, .inl m_tried_7)), (a_undos, .inl (cI, 208, .inl m_undos_16))] H := hP
      have hD : va_D A [(ax, .inr (8, [.int m_letterMany, .ref a_text, .int m_readAt, .ref a_told, .ref a_readLaw, .ref a_readNow, .ref a_law, .ref a_now, .ref a_tried, .int m_undoMany_14, .int m_undoAt_15, .ref a_undos, .int m_seenMany, .ref a_seenHour, .ref a_seenAt, .ref a_parts, .ref a_partsThen, .int m_keptMany, .ref a_kept])), (a_law, .inl (cI, 22, .inl m_law)), (a_now, .inl (cI, 26, .inl o_10)), (a_tried, .inl (cI, 26, .inl m_tried_7)), (a_undos, .inl (cI, 208, .inl m_undos_16))] := hD
      cases hF
      rw [hQ]
      exact xri hC hP hS dX8_walk_48
    · have hF := op_pos c6 hF
      refine lv_iconst (v := (-1 : Int32)) hx hb dX8_walk_17 (by decide) ?_
      cases hF
      rw [hQ]
      exact xri hC hP hS dX8_walk_18

def f_X8_mend (m_undoMany : Int32) (m_undoAt : Int32) (m_law : (Nat → Int32)) (m_now : (Nat → Int32)) (m_tried : (Nat → Int32)) (m_undos : (Nat → Int32)) (u : Int32) : Option (Int32 × Int32 × Int32 × (Nat → Int32) × (Nat → Int32) × (Nat → Int32)) := (Option.bind (f_X8_isParasol m_law u) fun r1 => (if r1 = 0 then (some ((-1 : Int32), m_undoMany, m_undoAt, m_now, m_tried, m_undos)) else (Option.bind (f_X8_copyNow m_now m_tried) fun m_tried_4 => (Option.bind (f_X8_mends m_law m_now u) fun (r6, o_7) => (if okb ((10 : Int32) + u) 26 = true then (Option.bind (f_X8_done m_undoMany m_undoAt m_tried_4 m_undos r6 (m_tried_4 ((10 : Int32) + u).toNatClampNeg)) fun (r10, m_undoMany_11, m_undoAt_12, m_undos_13) => (some (r10, m_undoMany_11, m_undoAt_12, o_7, m_tried_4, m_undos_13))) else none)))))

def rm_X8_mend : Room := { frames := 2, cells := 0, slots := 0, locals := 46 }

theorem pd_X8_mend : yX8_mend.cls ≠ "java/lang/invoke/MethodHandle" ∧ yX8_mend.cls ≠ "java/lang/invoke/VarHandle" ∧ (parseMethodDescriptor yX8_mend.desc).map (fun d => d.parameters.length) = some 1 := by decide +kernel

set_option maxHeartbeats 4000000 in
set_option maxRecDepth 100000 in
theorem c_X8_mend (l : Launch) (D : va_G) (cI cC cM : ClassId) (ax a_law a_now a_tried a_undos a_text a_told a_readLaw a_readNow a_seenHour a_seenAt a_parts a_partsThen a_kept : Nat) (m_letterMany : Int32) (m_readAt : Int32) (m_undoMany : Int32) (m_undoAt : Int32) (m_seenMany : Int32) (m_keptMany : Int32) (m_law : (Nat → Int32)) (m_now : (Nat → Int32)) (m_tried : (Nat → Int32)) (m_undos : (Nat → Int32)) (u : Int32) (rr : Int32) (m_undoMany' : Int32) (m_undoAt' : Int32) (m_now' : (Nat → Int32)) (m_tried' : (Nat → Int32)) (m_undos' : (Nat → Int32)) (hF : f_X8_mend m_undoMany m_undoAt m_law m_now m_tried m_undos u = some (rr, m_undoMany', m_undoAt', m_now', m_tried', m_undos')) : CI l D cI cC cM yX8_mend wsX8_mend rm_X8_mend [.ref ax, .int u] [(ax, .inr (8, [.int m_letterMany, .ref a_text, .int m_readAt, .ref a_told, .ref a_readLaw, .ref a_readNow, .ref a_law, .ref a_now, .ref a_tried, .int m_undoMany, .int m_undoAt, .ref a_undos, .int m_seenMany, .ref a_seenHour, .ref a_seenAt, .ref a_parts, .ref a_partsThen, .int m_keptMany, .ref a_kept])), (a_law, .inl (cI, 22, .inl m_law)), (a_now, .inl (cI, 26, .inl m_now)), (a_tried, .inl (cI, 26, .inl m_tried)), (a_undos, .inl (cI, 208, .inl m_undos))] [(ax, .inr (8, [.int m_letterMany, .ref a_text, .int m_readAt, .ref a_told, .ref a_readLaw, .ref a_readNow, .ref a_law, .ref a_now, .ref a_tried, .int m_undoMany', .int m_undoAt', .ref a_undos, .int m_seenMany, .ref a_seenHour, .ref a_seenAt, .ref a_parts, .ref a_partsThen, .int m_keptMany, .ref a_kept])), (a_law, .inl (cI, 22, .inl m_law)), (a_now, .inl (cI, 26, .inl m_now')), (a_tried, .inl (cI, 26, .inl m_tried')), (a_undos, .inl (cI, 208, .inl m_undos'))] rr := by
  refine CI.of (cc := cX8_mend) (nL := 2) (ret := (some .int)) (by decide) rfl (Nat.le_of_ble_eq_true rfl) ?_
  intro p e s m args below meth c A hC hP hD hS ls hl
  obtain ⟨hx, hb, hml, hown, hts, hr, hlk, hG, hA⟩ := id hC
  have hown : s.vm.findClass RX8 = some m.cls := hown
  have hK := hG.1
  have hl : lv_has ls 2 [(0, .ref ax), (1, .int u)] := hl
  have k_f25 := hts (.fieldLink RX8 25 "ParasolHoursModel" "now" "[I") (List.mem_of_getElem? (i := 1) rfl)
  have k_f28 := hts (.fieldLink RX8 28 "ParasolHoursModel" "tried" "[I") (List.mem_of_getElem? (i := 2) rfl)
  have iX8 : ∀ w ∈ wsX80, w ∈ wsX8_mend := by decide +kernel
  obtain ⟨Q, hQ⟩ : ∃ Q, Q = MQ below (QI D [(ax, .inr (8, [.int m_letterMany, .ref a_text, .int m_readAt, .ref a_told, .ref a_readLaw, .ref a_readNow, .ref a_law, .ref a_now, .ref a_tried, .int m_undoMany', .int m_undoAt', .ref a_undos, .int m_seenMany, .ref a_seenHour, .ref a_seenAt, .ref a_parts, .ref a_partsThen, .int m_keptMany, .ref a_kept])), (a_law, .inl (cI, 22, .inl m_law)), (a_now, .inl (cI, 26, .inl m_now')), (a_tried, .inl (cI, 26, .inl m_tried')), (a_undos, .inl (cI, 208, .inl m_undos'))] rr A) args s 0 0 A := ⟨_, rfl⟩
  rw [← hQ]
  unfold f_X8_mend at hF
  refine lv_aload_n hx hb dX8_mend_0 rfl (lv_at hl 0 rfl) ?_
  refine lv_iload_n hx hb dX8_mend_1 rfl (lv_at hl 1 rfl) ?_
  obtain ⟨r1, hb2, hF⟩ := op_bind hF
  refine xVr (As := [.int u]) (rest := []) hC hP hD hS [0, 1] (c_X8_isParasol l D cI cC cM ax a_law a_text a_told a_readLaw a_readNow a_now a_tried a_undos a_seenHour a_seenAt a_parts a_partsThen a_kept m_letterMany m_readAt m_undoMany m_undoAt m_seenMany m_keptMany m_law u r1 hb2) (cwV 1 hts gX8_mend_X8_isParasol rfl rfl rfl ⟨rfl, pd_X8_isParasol⟩ ⟨Nat.le_of_ble_eq_true rfl, Nat.le_of_ble_eq_true rfl⟩) rfl rfl 0 8 rfl rfl rfl rfl hl.1 rfl (Nat.le_of_ble_eq_true rfl) dX8_mend_2 ⟨Nat.zero_le _, Nat.zero_le _⟩ (fun H locs hP hS => ?_)
  refine lv_if_ne (tgt := 10) hx hb dX8_mend_5 (by decide) (fun c3 => ?_) (fun c3 => ?_)
  · have hF := op_neg c3 hF
    refine lv_aload_n hx hb dX8_mend_10 rfl (lv_at hl 0 rfl) ?_
    obtain ⟨m_tried_4, hb5, hF⟩ := op_bind hF
    refine xVv (As := []) (rest := []) hC hP hD hS [0, 2, 3] (c_X8_copyNow l D cI cC cM ax a_now a_tried a_text a_told a_readLaw a_readNow a_law a_undos a_seenHour a_seenAt a_parts a_partsThen a_kept m_letterMany m_readAt m_undoMany m_undoAt m_seenMany m_keptMany m_now m_tried m_tried_4 hb5) (cwV 0 hts gX8_mend_X8_copyNow rfl rfl rfl ⟨rfl, pd_X8_copyNow⟩ ⟨Nat.le_of_ble_eq_true rfl, Nat.le_of_ble_eq_true rfl⟩) rfl rfl rfl 0 8 rfl rfl rfl rfl hl.1 rfl (Nat.le_of_ble_eq_true rfl) dX8_mend_11 ⟨Nat.zero_le _, Nat.zero_le _⟩ (fun H locs hP hD hS => ?_)
    have hP : va_P D vwCl [(ax, .inr (8, [.int m_letterMany, .ref a_text, .int m_readAt, .ref a_told, .ref a_readLaw, .ref a_readNow, .ref a_law, .ref a_now, .ref a_tried, .int m_undoMany, .int m_undoAt, .ref a_undos, .int m_seenMany, .ref a_seenHour, .ref a_seenAt, .ref a_parts, .ref a_partsThen, .int m_keptMany, .ref a_kept])), (a_law, .inl (cI, 22, .inl m_law)), (a_now, .inl (cI, 26, .inl m_now)), (a_tried, .inl (cI, 26, .inl m_tried_4)), (a_undos, .inl (cI, 208, .inl m_undos))] H := hP
    have hD : va_D A [(ax, .inr (8, [.int m_letterMany, .ref a_text, .int m_readAt, .ref a_told, .ref a_readLaw, .ref a_readNow, .ref a_law, .ref a_now, .ref a_tried, .int m_undoMany, .int m_undoAt, .ref a_undos, .int m_seenMany, .ref a_seenHour, .ref a_seenAt, .ref a_parts, .ref a_partsThen, .int m_keptMany, .ref a_kept])), (a_law, .inl (cI, 22, .inl m_law)), (a_now, .inl (cI, 26, .inl m_now)), (a_tried, .inl (cI, 26, .inl m_tried_4)), (a_undos, .inl (cI, 208, .inl m_undos))] := hD
    refine lv_aload_n hx hb dX8_mend_14 rfl (lv_at hl 0 rfl) ?_
    refine lv_aload_n hx hb dX8_mend_15 rfl (lv_at hl 0 rfl) ?_
    refine lv_aload_n hx hb dX8_mend_16 rfl (lv_at hl 0 rfl) ?_
    refine va_get (D := D) (ci := 8) (v := .ref a_now) (C := RX8) (T := TX8) (N := 19) hx hb hts iX8 hown hK hP 0 rfl rfl 7 (by decide) k_f25 (fun _ h9 => h9) rfl dX8_mend_17 ?_
    refine lv_iload_n hx hb dX8_mend_20 rfl (lv_at hl 1 rfl) ?_
    obtain ⟨⟨r6, o_7⟩, hb8, hF⟩ := op_bind hF
    refine xVi (As := [.ref a_now, .int u]) (rest := [.ref ax]) hC hP hD hS [0, 1, 2] (c_X8_mends l D cI cC cM ax a_law a_now a_text a_told a_readLaw a_readNow a_now a_tried a_undos a_seenHour a_seenAt a_parts a_partsThen a_kept m_letterMany m_readAt m_undoMany m_undoAt m_seenMany m_keptMany m_law m_now u r6 o_7 hb8) (cwV 2 hts gX8_mend_X8_mends rfl rfl rfl ⟨rfl, pd_X8_mends⟩ ⟨Nat.le_of_ble_eq_true rfl, Nat.le_of_ble_eq_true rfl⟩) rfl rfl rfl 0 8 rfl rfl rfl rfl hl.1 rfl (Nat.le_of_ble_eq_true rfl) dX8_mend_21 ⟨Nat.zero_le _, Nat.zero_le _⟩ (fun H locs hP hD hS => ?_)
    have hP : va_P D vwCl [(ax, .inr (8, [.int m_letterMany, .ref a_text, .int m_readAt, .ref a_told, .ref a_readLaw, .ref a_readNow, .ref a_law, .ref a_now, .ref a_tried, .int m_undoMany, .int m_undoAt, .ref a_undos, .int m_seenMany, .ref a_seenHour, .ref a_seenAt, .ref a_parts, .ref a_partsThen, .int m_keptMany, .ref a_kept])), (a_law, .inl (cI, 22, .inl m_law)), (a_now, .inl (cI, 26, .inl o_7)), (a_tried, .inl (cI, 26, .inl m_tried_4)), (a_undos, .inl (cI, 208, .inl m_undos))] H := hP
    have hD : va_D A [(ax, .inr (8, [.int m_letterMany, .ref a_text, .int m_readAt, .ref a_told, .ref a_readLaw, .ref a_readNow, .ref a_law, .ref a_now, .ref a_tried, .int m_undoMany, .int m_undoAt, .ref a_undos, .int m_seenMany, .ref a_seenHour, .ref a_seenAt, .ref a_parts, .ref a_partsThen, .int m_keptMany, .ref a_kept])), (a_law, .inl (cI, 22, .inl m_law)), (a_now, .inl (cI, 26, .inl o_7)), (a_tried, .inl (cI, 26, .inl m_tried_4)), (a_undos, .inl (cI, 208, .inl m_undos))] := hD
    refine lv_aload_n hx hb dX8_mend_24 rfl (lv_at hl 0 rfl) ?_
    refine va_get (D := D) (ci := 8) (v := .ref a_tried) (C := RX8) (T := TX8) (N := 19) hx hb hts iX8 hown hK hP 0 rfl rfl 8 (by decide) k_f28 (fun _ h9 => h9) rfl dX8_mend_25 ?_
    refine lv_bipush (v := (10 : Int32)) hx hb dX8_mend_28 (by decide) ?_
    refine lv_iload_n hx hb dX8_mend_30 rfl (lv_at hl 1 rfl) ?_
    refine lv_iadd hx hb dX8_mend_31 ?_
    obtain ⟨o9, hF⟩ := op_ob hF
    refine va_iald hx hb hK hP 3 0 rfl rfl (okb_in o9) dX8_mend_32 ?_
    obtain ⟨⟨r10, m_undoMany_11, m_undoAt_12, m_undos_13⟩, hb14, hF⟩ := op_bind hF
    refine xVi (As := [.int r6, .int (m_tried_4 ((10 : Int32) + u).toNatClampNeg)]) (rest := []) hC hP hD hS [0, 3, 4] (c_X8_done l D cI cC cM ax a_tried a_undos a_text a_told a_readLaw a_readNow a_law a_now a_seenHour a_seenAt a_parts a_partsThen a_kept m_letterMany m_readAt m_undoMany m_undoAt m_seenMany m_keptMany m_tried_4 m_undos r6 (m_tried_4 ((10 : Int32) + u).toNatClampNeg) r10 m_undoMany_11 m_undoAt_12 m_undos_13 hb14) (cwV 2 hts gX8_mend_X8_done rfl rfl rfl ⟨rfl, pd_X8_done⟩ ⟨Nat.le_of_ble_eq_true rfl, Nat.le_of_ble_eq_true rfl⟩) rfl rfl rfl 0 8 rfl rfl rfl rfl hl.1 rfl (Nat.le_of_ble_eq_true rfl) dX8_mend_33 ⟨Nat.zero_le _, Nat.zero_le _⟩ (fun H locs hP hD hS => ?_)
    have hP : va_P D vwCl [(ax, .inr (8, [.int m_letterMany, .ref a_text, .int m_readAt, .ref a_told, .ref a_readLaw, .ref a_readNow, .ref a_law, .ref a_now, .ref a_tried, .int m_undoMany_11, .int m_undoAt_12, .ref a_undos, .int m_seenMany, .ref a_seenHour, .ref a_seenAt, .ref a_parts, .ref a_partsThen, .int m_keptMany, .ref a_kept])), (a_law, .inl (cI, 22, .inl m_law)), (a_now, .inl (cI, 26, .inl o_7)), (a_tried, .inl (cI, 26, .inl m_tried_4)), (a_undos, .inl (cI, 208, .inl m_undos_13))] H := hP
    have hD : va_D A [(ax, .inr (8, [.int m_letterMany, .ref a_text, .int m_readAt, .ref a_told, .ref a_readLaw, .ref a_readNow, .ref a_law, .ref a_now, .ref a_tried, .int m_undoMany_11, .int m_undoAt_12, .ref a_undos, .int m_seenMany, .ref a_seenHour, .ref a_seenAt, .ref a_parts, .ref a_partsThen, .int m_keptMany, .ref a_kept])), (a_law, .inl (cI, 22, .inl m_law)), (a_now, .inl (cI, 26, .inl o_7)), (a_tried, .inl (cI, 26, .inl m_tried_4)), (a_undos, .inl (cI, 208, .inl m_undos_13))] := hD
    cases hF
    rw [hQ]
    exact xri hC hP hS dX8_mend_36
  · have hF := op_pos c3 hF
    refine lv_iconst (v := (-1 : Int32)) hx hb dX8_mend_8 (by decide) ?_
    cases hF
    rw [hQ]
    exact xri hC hP hS dX8_mend_9

def f_X8_pass_L22 (n : Int32) (m_law : (Nat → Int32)) (k22 : Int32 → (Nat → Int32) → Option (Int32 × Int32 × Int32 × (Nat → Int32) × (Nat → Int32) × (Nat → Int32))) : Nat → Int32 → (Nat → Int32) → Option (Int32 × Int32 × Int32 × (Nat → Int32) × (Nat → Int32) × (Nat → Int32))
  | 0, _, _ => none
  | nf22 + 1, v10, m_now_11 => (if n ≤ v10 then (k22 v10 m_now_11) else (Option.bind (f_X8_goes m_law m_now_11) fun o_13 => (f_X8_pass_L22 n m_law k22 nf22 (v10 + (1 : Int32)) o_13)))
theorem f_X8_pass_L22_0 (n : Int32) (m_law : (Nat → Int32)) (k22 : Int32 → (Nat → Int32) → Option (Int32 × Int32 × Int32 × (Nat → Int32) × (Nat → Int32) × (Nat → Int32))) (v10 : Int32) (m_now_11 : (Nat → Int32)) : f_X8_pass_L22 n m_law k22 0 v10 m_now_11 = none := rfl
theorem f_X8_pass_L22_s (n : Int32) (m_law : (Nat → Int32)) (k22 : Int32 → (Nat → Int32) → Option (Int32 × Int32 × Int32 × (Nat → Int32) × (Nat → Int32) × (Nat → Int32))) (nf22 : Nat) (v10 : Int32) (m_now_11 : (Nat → Int32)) : f_X8_pass_L22 n m_law k22 (nf22 + 1) v10 m_now_11 = (if n ≤ v10 then (k22 v10 m_now_11) else (Option.bind (f_X8_goes m_law m_now_11) fun o_13 => (f_X8_pass_L22 n m_law k22 nf22 (v10 + (1 : Int32)) o_13))) := rfl

def f_X8_pass (m_undoMany : Int32) (m_undoAt : Int32) (m_law : (Nat → Int32)) (m_now : (Nat → Int32)) (m_tried : (Nat → Int32)) (m_undos : (Nat → Int32)) (n : Int32) : Option (Int32 × Int32 × Int32 × (Nat → Int32) × (Nat → Int32) × (Nat → Int32)) := (Option.bind (f_X8_in n (1 : Int32) (24 : Int32)) fun r1 => (if r1 = 0 then (some ((-1 : Int32), m_undoMany, m_undoAt, m_now, m_tried, m_undos)) else (Option.bind (f_X8_copyNow m_now m_tried) fun m_tried_4 => (Option.bind (f_X8_remember m_undoMany m_undoAt m_tried_4 m_undos) fun (m_undoMany_6, m_undoAt_7, m_undos_8) => (f_X8_pass_L22 n m_law (fun (v10 : Int32) (m_now_11 : (Nat → Int32)) => (some ((m_now_11 (0 : Int32).toNatClampNeg), m_undoMany_6, m_undoAt_7, m_now_11, m_tried_4, m_undos_8))) 20000 (0 : Int32) m_now)))))

def rm_X8_pass : Room := { frames := 4, cells := 0, slots := 0, locals := 90 }

theorem pd_X8_pass : yX8_pass.cls ≠ "java/lang/invoke/MethodHandle" ∧ yX8_pass.cls ≠ "java/lang/invoke/VarHandle" ∧ (parseMethodDescriptor yX8_pass.desc).map (fun d => d.parameters.length) = some 1 := by decide +kernel

set_option maxHeartbeats 4000000 in
set_option maxRecDepth 100000 in
theorem c_X8_pass (l : Launch) (D : va_G) (cI cC cM : ClassId) (ax a_law a_now a_tried a_undos a_text a_told a_readLaw a_readNow a_seenHour a_seenAt a_parts a_partsThen a_kept : Nat) (m_letterMany : Int32) (m_readAt : Int32) (m_undoMany : Int32) (m_undoAt : Int32) (m_seenMany : Int32) (m_keptMany : Int32) (m_law : (Nat → Int32)) (m_now : (Nat → Int32)) (m_tried : (Nat → Int32)) (m_undos : (Nat → Int32)) (n : Int32) (rr : Int32) (m_undoMany' : Int32) (m_undoAt' : Int32) (m_now' : (Nat → Int32)) (m_tried' : (Nat → Int32)) (m_undos' : (Nat → Int32)) (hF : f_X8_pass m_undoMany m_undoAt m_law m_now m_tried m_undos n = some (rr, m_undoMany', m_undoAt', m_now', m_tried', m_undos')) : CI l D cI cC cM yX8_pass wsX8_pass rm_X8_pass [.ref ax, .int n] [(ax, .inr (8, [.int m_letterMany, .ref a_text, .int m_readAt, .ref a_told, .ref a_readLaw, .ref a_readNow, .ref a_law, .ref a_now, .ref a_tried, .int m_undoMany, .int m_undoAt, .ref a_undos, .int m_seenMany, .ref a_seenHour, .ref a_seenAt, .ref a_parts, .ref a_partsThen, .int m_keptMany, .ref a_kept])), (a_law, .inl (cI, 22, .inl m_law)), (a_now, .inl (cI, 26, .inl m_now)), (a_tried, .inl (cI, 26, .inl m_tried)), (a_undos, .inl (cI, 208, .inl m_undos))] [(ax, .inr (8, [.int m_letterMany, .ref a_text, .int m_readAt, .ref a_told, .ref a_readLaw, .ref a_readNow, .ref a_law, .ref a_now, .ref a_tried, .int m_undoMany', .int m_undoAt', .ref a_undos, .int m_seenMany, .ref a_seenHour, .ref a_seenAt, .ref a_parts, .ref a_partsThen, .int m_keptMany, .ref a_kept])), (a_law, .inl (cI, 22, .inl m_law)), (a_now, .inl (cI, 26, .inl m_now')), (a_tried, .inl (cI, 26, .inl m_tried')), (a_undos, .inl (cI, 208, .inl m_undos'))] rr := by
  refine CI.of (cc := cX8_pass) (nL := 3) (ret := (some .int)) (by decide) rfl (Nat.le_of_ble_eq_true rfl) ?_
  intro p e s m args below meth c A hC hP hD hS ls hl
  obtain ⟨hx, hb, hml, hown, hts, hr, hlk, hG, hA⟩ := id hC
  have hown : s.vm.findClass RX8 = some m.cls := hown
  have hK := hG.1
  have hl : lv_has ls 3 [(0, .ref ax), (1, .int n)] := hl
  have k_f25 := hts (.fieldLink RX8 25 "ParasolHoursModel" "now" "[I") (List.mem_of_getElem? (i := 1) rfl)
  have iX8 : ∀ w ∈ wsX80, w ∈ wsX8_pass := by decide +kernel
  obtain ⟨Q, hQ⟩ : ∃ Q, Q = MQ below (QI D [(ax, .inr (8, [.int m_letterMany, .ref a_text, .int m_readAt, .ref a_told, .ref a_readLaw, .ref a_readNow, .ref a_law, .ref a_now, .ref a_tried, .int m_undoMany', .int m_undoAt', .ref a_undos, .int m_seenMany, .ref a_seenHour, .ref a_seenAt, .ref a_parts, .ref a_partsThen, .int m_keptMany, .ref a_kept])), (a_law, .inl (cI, 22, .inl m_law)), (a_now, .inl (cI, 26, .inl m_now')), (a_tried, .inl (cI, 26, .inl m_tried')), (a_undos, .inl (cI, 208, .inl m_undos'))] rr A) args s 0 0 A := ⟨_, rfl⟩
  rw [← hQ]
  unfold f_X8_pass at hF
  refine lv_iload_n hx hb dX8_pass_0 rfl (lv_at hl 1 rfl) ?_
  refine lv_iconst (v := (1 : Int32)) hx hb dX8_pass_1 (by decide) ?_
  refine lv_bipush (v := (24 : Int32)) hx hb dX8_pass_2 (by decide) ?_
  obtain ⟨r1, hb2, hF⟩ := op_bind hF
  refine xSr (As := [.int n, .int (1 : Int32), .int (24 : Int32)]) (rest := []) hC hP hD hS [] (c_X8_in l D cI cC cM n (1 : Int32) (24 : Int32) r1 hb2) (va_cwS 3 hts gX8_pass_X8_in rfl rfl rfl pd_X8_in ⟨Nat.le_of_ble_eq_true rfl, Nat.le_of_ble_eq_true rfl⟩) rfl rfl rfl hl.1 rfl (Nat.le_of_ble_eq_true rfl) dX8_pass_4 ⟨Nat.zero_le _, Nat.zero_le _⟩ (fun H locs hP hS => ?_)
  refine lv_if_ne (tgt := 12) hx hb dX8_pass_7 (by decide) (fun c3 => ?_) (fun c3 => ?_)
  · have hF := op_neg c3 hF
    refine lv_aload_n hx hb dX8_pass_12 rfl (lv_at hl 0 rfl) ?_
    obtain ⟨m_tried_4, hb5, hF⟩ := op_bind hF
    refine xVv (As := []) (rest := []) hC hP hD hS [0, 2, 3] (c_X8_copyNow l D cI cC cM ax a_now a_tried a_text a_told a_readLaw a_readNow a_law a_undos a_seenHour a_seenAt a_parts a_partsThen a_kept m_letterMany m_readAt m_undoMany m_undoAt m_seenMany m_keptMany m_now m_tried m_tried_4 hb5) (cwV 0 hts gX8_pass_X8_copyNow rfl rfl rfl ⟨rfl, pd_X8_copyNow⟩ ⟨Nat.le_of_ble_eq_true rfl, Nat.le_of_ble_eq_true rfl⟩) rfl rfl rfl 0 8 rfl rfl rfl rfl hl.1 rfl (Nat.le_of_ble_eq_true rfl) dX8_pass_13 ⟨Nat.zero_le _, Nat.zero_le _⟩ (fun H locs hP hD hS => ?_)
    have hP : va_P D vwCl [(ax, .inr (8, [.int m_letterMany, .ref a_text, .int m_readAt, .ref a_told, .ref a_readLaw, .ref a_readNow, .ref a_law, .ref a_now, .ref a_tried, .int m_undoMany, .int m_undoAt, .ref a_undos, .int m_seenMany, .ref a_seenHour, .ref a_seenAt, .ref a_parts, .ref a_partsThen, .int m_keptMany, .ref a_kept])), (a_law, .inl (cI, 22, .inl m_law)), (a_now, .inl (cI, 26, .inl m_now)), (a_tried, .inl (cI, 26, .inl m_tried_4)), (a_undos, .inl (cI, 208, .inl m_undos))] H := hP
    have hD : va_D A [(ax, .inr (8, [.int m_letterMany, .ref a_text, .int m_readAt, .ref a_told, .ref a_readLaw, .ref a_readNow, .ref a_law, .ref a_now, .ref a_tried, .int m_undoMany, .int m_undoAt, .ref a_undos, .int m_seenMany, .ref a_seenHour, .ref a_seenAt, .ref a_parts, .ref a_partsThen, .int m_keptMany, .ref a_kept])), (a_law, .inl (cI, 22, .inl m_law)), (a_now, .inl (cI, 26, .inl m_now)), (a_tried, .inl (cI, 26, .inl m_tried_4)), (a_undos, .inl (cI, 208, .inl m_undos))] := hD
    refine lv_aload_n hx hb dX8_pass_16 rfl (lv_at hl 0 rfl) ?_
    obtain ⟨⟨m_undoMany_6, m_undoAt_7, m_undos_8⟩, hb9, hF⟩ := op_bind hF
    refine xVv (As := []) (rest := []) hC hP hD hS [0, 3, 4] (c_X8_remember l D cI cC cM ax a_tried a_undos a_text a_told a_readLaw a_readNow a_law a_now a_seenHour a_seenAt a_parts a_partsThen a_kept m_letterMany m_readAt m_undoMany m_undoAt m_seenMany m_keptMany m_tried_4 m_undos m_undoMany_6 m_undoAt_7 m_undos_8 hb9) (cwV 0 hts gX8_pass_X8_remember rfl rfl rfl ⟨rfl, pd_X8_remember⟩ ⟨Nat.le_of_ble_eq_true rfl, Nat.le_of_ble_eq_true rfl⟩) rfl rfl rfl 0 8 rfl rfl rfl rfl hl.1 rfl (Nat.le_of_ble_eq_true rfl) dX8_pass_17 ⟨Nat.zero_le _, Nat.zero_le _⟩ (fun H locs hP hD hS => ?_)
    have hP : va_P D vwCl [(ax, .inr (8, [.int m_letterMany, .ref a_text, .int m_readAt, .ref a_told, .ref a_readLaw, .ref a_readNow, .ref a_law, .ref a_now, .ref a_tried, .int m_undoMany_6, .int m_undoAt_7, .ref a_undos, .int m_seenMany, .ref a_seenHour, .ref a_seenAt, .ref a_parts, .ref a_partsThen, .int m_keptMany, .ref a_kept])), (a_law, .inl (cI, 22, .inl m_law)), (a_now, .inl (cI, 26, .inl m_now)), (a_tried, .inl (cI, 26, .inl m_tried_4)), (a_undos, .inl (cI, 208, .inl m_undos_8))] H := hP
    have hD : va_D A [(ax, .inr (8, [.int m_letterMany, .ref a_text, .int m_readAt, .ref a_told, .ref a_readLaw, .ref a_readNow, .ref a_law, .ref a_now, .ref a_tried, .int m_undoMany_6, .int m_undoAt_7, .ref a_undos, .int m_seenMany, .ref a_seenHour, .ref a_seenAt, .ref a_parts, .ref a_partsThen, .int m_keptMany, .ref a_kept])), (a_law, .inl (cI, 22, .inl m_law)), (a_now, .inl (cI, 26, .inl m_now)), (a_tried, .inl (cI, 26, .inl m_tried_4)), (a_undos, .inl (cI, 208, .inl m_undos_8))] := hD
    refine lv_iconst (v := (0 : Int32)) hx hb dX8_pass_20 (by decide) ?_
    refine lv_istore_n (lv' := [(2, .int (0 : Int32)), (0, .ref ax), (1, .int n)]) hx hb dX8_pass_21 rfl hl (by decide) rfl (fun ls hl => ?_)
    have hL22 : ∀ (k22 : Int32 → (Nat → Int32) → Option (Int32 × Int32 × Int32 × (Nat → Int32) × (Nat → Int32) × (Nat → Int32))), (∀ (v10 : Int32) (m_now_11 : (Nat → Int32)) (H : Heap) (locs : List Loc), va_P D vwCl [(ax, .inr (8, [.int m_letterMany, .ref a_text, .int m_readAt, .ref a_told, .ref a_readLaw, .ref a_readNow, .ref a_law, .ref a_now, .ref a_tried, .int m_undoMany_6, .int m_undoAt_7, .ref a_undos, .int m_seenMany, .ref a_seenHour, .ref a_seenAt, .ref a_parts, .ref a_partsThen, .int m_keptMany, .ref a_kept])), (a_law, .inl (cI, 22, .inl m_law)), (a_now, .inl (cI, 26, .inl m_now_11)), (a_tried, .inl (cI, 26, .inl m_tried_4)), (a_undos, .inl (cI, 208, .inl m_undos_8))] H → va_D A [(ax, .inr (8, [.int m_letterMany, .ref a_text, .int m_readAt, .ref a_told, .ref a_readLaw, .ref a_readNow, .ref a_law, .ref a_now, .ref a_tried, .int m_undoMany_6, .int m_undoAt_7, .ref a_undos, .int m_seenMany, .ref a_seenHour, .ref a_seenAt, .ref a_parts, .ref a_partsThen, .int m_keptMany, .ref a_kept])), (a_law, .inl (cI, 22, .inl m_law)), (a_now, .inl (cI, 26, .inl m_now_11)), (a_tried, .inl (cI, 26, .inl m_tried_4)), (a_undos, .inl (cI, 208, .inl m_undos_8))] → va_S A s.heap H locs → ∀ ls : Array Slot, lv_has ls 3 [(0, .ref ax)] → k22 v10 m_now_11 = some (rr, m_undoMany', m_undoAt', m_now', m_tried', m_undos') → W p l e rm_X8_pass s m args below meth c H locs 0 0 Q (F0 m 41 ls [])) → ∀ (nf22 : Nat) (v10 : Int32) (m_now_11 : (Nat → Int32)) (H : Heap) (locs : List Loc), va_P D vwCl [(ax, .inr (8, [.int m_letterMany, .ref a_text, .int m_readAt, .ref a_told, .ref a_readLaw, .ref a_readNow, .ref a_law, .ref a_now, .ref a_tried, .int m_undoMany_6, .int m_undoAt_7, .ref a_undos, .int m_seenMany, .ref a_seenHour, .ref a_seenAt, .ref a_parts, .ref a_partsThen, .int m_keptMany, .ref a_kept])), (a_law, .inl (cI, 22, .inl m_law)), (a_now, .inl (cI, 26, .inl m_now_11)), (a_tried, .inl (cI, 26, .inl m_tried_4)), (a_undos, .inl (cI, 208, .inl m_undos_8))] H → va_D A [(ax, .inr (8, [.int m_letterMany, .ref a_text, .int m_readAt, .ref a_told, .ref a_readLaw, .ref a_readNow, .ref a_law, .ref a_now, .ref a_tried, .int m_undoMany_6, .int m_undoAt_7, .ref a_undos, .int m_seenMany, .ref a_seenHour, .ref a_seenAt, .ref a_parts, .ref a_partsThen, .int m_keptMany, .ref a_kept])), (a_law, .inl (cI, 22, .inl m_law)), (a_now, .inl (cI, 26, .inl m_now_11)), (a_tried, .inl (cI, 26, .inl m_tried_4)), (a_undos, .inl (cI, 208, .inl m_undos_8))] → va_S A s.heap H locs → ∀ ls : Array Slot, lv_has ls 3 [(2, .int v10), (0, .ref ax), (1, .int n)] → f_X8_pass_L22 n m_law k22 nf22 v10 m_now_11 = some (rr, m_undoMany', m_undoAt', m_now', m_tried', m_undos') → W p l e rm_X8_pass s m args below meth c H locs 0 0 Q (F0 m 22 ls []) := by
      intro k22 hk22 nf22
      induction nf22 with
      | zero =>
        intro v10 m_now_11 H locs hP hD hS ls hl hF
        rw [f_X8_pass_L22_0] at hF
        cases hF
      | succ nf22 ih22 =>
        intro v10 m_now_11 H locs hP hD hS ls hl hF
        rw [f_X8_pass_L22_s] at hF
        refine lv_iload_n hx hb dX8_pass_22 rfl (lv_at hl 0 rfl) ?_
        refine lv_iload_n hx hb dX8_pass_23 rfl (lv_at hl 2 rfl) ?_
        refine lv_icmp_ge (tgt := 41) hx hb dX8_pass_24 (by decide) (fun c12 => ?_) (fun c12 => ?_)
        · have hF := op_pos c12 hF
          exact hk22 v10 m_now_11 _ _ hP hD hS _ (lv_sub hl [1] rfl) hF
        · have hF := op_neg c12 hF
          refine lv_aload_n hx hb dX8_pass_27 rfl (lv_at hl 1 rfl) ?_
          refine lv_aload_n hx hb dX8_pass_28 rfl (lv_at hl 1 rfl) ?_
          refine va_get (D := D) (ci := 8) (v := .ref a_now) (C := RX8) (T := TX8) (N := 19) hx hb hts iX8 hown hK hP 0 rfl rfl 7 (by decide) k_f25 (fun _ h9 => h9) rfl dX8_pass_29 ?_
          obtain ⟨o_13, hb14, hF⟩ := op_bind hF
          refine xVv (As := [.ref a_now]) (rest := []) hC hP hD hS [0, 1, 2] (c_X8_goes l D cI cC cM ax a_law a_now a_text a_told a_readLaw a_readNow a_now a_tried a_undos a_seenHour a_seenAt a_parts a_partsThen a_kept m_letterMany m_readAt m_undoMany_6 m_undoAt_7 m_seenMany m_keptMany m_law m_now_11 o_13 hb14) (cwV 1 hts gX8_pass_X8_goes rfl rfl rfl ⟨rfl, pd_X8_goes⟩ ⟨Nat.le_of_ble_eq_true rfl, Nat.le_of_ble_eq_true rfl⟩) rfl rfl rfl 0 8 rfl rfl rfl rfl hl.1 rfl (Nat.le_of_ble_eq_true rfl) dX8_pass_32 ⟨Nat.zero_le _, Nat.zero_le _⟩ (fun H locs hP hD hS => ?_)
          have hP : va_P D vwCl [(ax, .inr (8, [.int m_letterMany, .ref a_text, .int m_readAt, .ref a_told, .ref a_readLaw, .ref a_readNow, .ref a_law, .ref a_now, .ref a_tried, .int m_undoMany_6, .int m_undoAt_7, .ref a_undos, .int m_seenMany, .ref a_seenHour, .ref a_seenAt, .ref a_parts, .ref a_partsThen, .int m_keptMany, .ref a_kept])), (a_law, .inl (cI, 22, .inl m_law)), (a_now, .inl (cI, 26, .inl o_13)), (a_tried, .inl (cI, 26, .inl m_tried_4)), (a_undos, .inl (cI, 208, .inl m_undos_8))] H := hP
          have hD : va_D A [(ax, .inr (8, [.int m_letterMany, .ref a_text, .int m_readAt, .ref a_told, .ref a_readLaw, .ref a_readNow, .ref a_law, .ref a_now, .ref a_tried, .int m_undoMany_6, .int m_undoAt_7, .ref a_undos, .int m_seenMany, .ref a_seenHour, .ref a_seenAt, .ref a_parts, .ref a_partsThen, .int m_keptMany, .ref a_kept])), (a_law, .inl (cI, 22, .inl m_law)), (a_now, .inl (cI, 26, .inl o_13)), (a_tried, .inl (cI, 26, .inl m_tried_4)), (a_undos, .inl (cI, 208, .inl m_undos_8))] := hD
          refine lv_iinc (v := (v10 + (1 : Int32))) (lv' := [(2, .int (v10 + (1 : Int32))), (0, .ref ax), (1, .int n)]) hx hb dX8_pass_35 hl (k := 0) rfl (by first | rfl | decide) (by decide) rfl (fun ls hl => ?_)
          refine lv_goto (tgt := 22) hx hb dX8_pass_38 (by decide) ?_
          exact ih22 (v10 + (1 : Int32)) o_13 _ _ hP hD hS _ (lv_sub hl [0, 1, 2] rfl) hF
    refine hL22 _ (fun v10 m_now_11 H locs hP hD hS ls hl hF => ?_) 20000 (0 : Int32) m_now _ _ hP hD hS _ (lv_sub hl [0, 1, 2] rfl) hF
    refine lv_aload_n hx hb dX8_pass_41 rfl (lv_at hl 0 rfl) ?_
    refine va_get (D := D) (ci := 8) (v := .ref a_now) (C := RX8) (T := TX8) (N := 19) hx hb hts iX8 hown hK hP 0 rfl rfl 7 (by decide) k_f25 (fun _ h9 => h9) rfl dX8_pass_42 ?_
    refine lv_iconst (v := (0 : Int32)) hx hb dX8_pass_45 (by decide) ?_
    refine va_iald hx hb hK hP 2 0 rfl rfl (okb_in (by decide)) dX8_pass_46 ?_
    cases hF
    rw [hQ]
    exact xri hC hP hS dX8_pass_47
  · have hF := op_pos c3 hF
    refine lv_iconst (v := (-1 : Int32)) hx hb dX8_pass_10 (by decide) ?_
    cases hF
    rw [hQ]
    exact xri hC hP hS dX8_pass_11

def f_X8_undo_L38 (m_undoAt : Int32) (m_undos : (Nat → Int32)) (k38 : Int32 → (Nat → Int32) → Option (Int32 × Int32 × Int32 × (Nat → Int32))) : Nat → Int32 → (Nat → Int32) → Option (Int32 × Int32 × Int32 × (Nat → Int32))
  | 0, _, _ => none
  | nf38 + 1, v2, m_now_3 => (if (26 : Int32) ≤ v2 then (k38 v2 m_now_3) else (if okb (((26 : Int32) * (jrem ((m_undoAt + (8 : Int32)) - (1 : Int32)) (8 : Int32))) + v2) 208 = true then (if okb v2 26 = true then (f_X8_undo_L38 m_undoAt m_undos k38 nf38 (v2 + (1 : Int32)) (upd m_now_3 v2.toNatClampNeg (m_undos (((26 : Int32) * (jrem ((m_undoAt + (8 : Int32)) - (1 : Int32)) (8 : Int32))) + v2).toNatClampNeg))) else none) else none))
theorem f_X8_undo_L38_0 (m_undoAt : Int32) (m_undos : (Nat → Int32)) (k38 : Int32 → (Nat → Int32) → Option (Int32 × Int32 × Int32 × (Nat → Int32))) (v2 : Int32) (m_now_3 : (Nat → Int32)) : f_X8_undo_L38 m_undoAt m_undos k38 0 v2 m_now_3 = none := rfl
theorem f_X8_undo_L38_s (m_undoAt : Int32) (m_undos : (Nat → Int32)) (k38 : Int32 → (Nat → Int32) → Option (Int32 × Int32 × Int32 × (Nat → Int32))) (nf38 : Nat) (v2 : Int32) (m_now_3 : (Nat → Int32)) : f_X8_undo_L38 m_undoAt m_undos k38 (nf38 + 1) v2 m_now_3 = (if (26 : Int32) ≤ v2 then (k38 v2 m_now_3) else (if okb (((26 : Int32) * (jrem ((m_undoAt + (8 : Int32)) - (1 : Int32)) (8 : Int32))) + v2) 208 = true then (if okb v2 26 = true then (f_X8_undo_L38 m_undoAt m_undos k38 nf38 (v2 + (1 : Int32)) (upd m_now_3 v2.toNatClampNeg (m_undos (((26 : Int32) * (jrem ((m_undoAt + (8 : Int32)) - (1 : Int32)) (8 : Int32))) + v2).toNatClampNeg))) else none) else none)) := rfl

def f_X8_undo (m_undoMany : Int32) (m_undoAt : Int32) (m_now : (Nat → Int32)) (m_undos : (Nat → Int32)) : Option (Int32 × Int32 × Int32 × (Nat → Int32)) := (if m_undoMany = 0 then (some ((-2 : Int32), m_undoMany, m_undoAt, m_now)) else (f_X8_undo_L38 m_undoAt m_undos (fun (v2 : Int32) (m_now_3 : (Nat → Int32)) => (some ((m_undoMany - (1 : Int32)), (m_undoMany - (1 : Int32)), (jrem ((m_undoAt + (8 : Int32)) - (1 : Int32)) (8 : Int32)), m_now_3))) 20000 (0 : Int32) m_now))

def rm_X8_undo : Room := { frames := 0, cells := 0, slots := 0, locals := 0 }

theorem pd_X8_undo : yX8_undo.cls ≠ "java/lang/invoke/MethodHandle" ∧ yX8_undo.cls ≠ "java/lang/invoke/VarHandle" ∧ (parseMethodDescriptor yX8_undo.desc).map (fun d => d.parameters.length) = some 0 := by decide +kernel

set_option maxHeartbeats 4000000 in
set_option maxRecDepth 100000 in
theorem c_X8_undo (l : Launch) (D : va_G) (cI cC cM : ClassId) (ax a_now a_undos a_text a_told a_readLaw a_readNow a_law a_tried a_seenHour a_seenAt a_parts a_partsThen a_kept : Nat) (m_letterMany : Int32) (m_readAt : Int32) (m_undoMany : Int32) (m_undoAt : Int32) (m_seenMany : Int32) (m_keptMany : Int32) (m_now : (Nat → Int32)) (m_undos : (Nat → Int32)) (rr : Int32) (m_undoMany' : Int32) (m_undoAt' : Int32) (m_now' : (Nat → Int32)) (hF : f_X8_undo m_undoMany m_undoAt m_now m_undos = some (rr, m_undoMany', m_undoAt', m_now')) : CI l D cI cC cM yX8_undo wsX8_undo rm_X8_undo [.ref ax] [(ax, .inr (8, [.int m_letterMany, .ref a_text, .int m_readAt, .ref a_told, .ref a_readLaw, .ref a_readNow, .ref a_law, .ref a_now, .ref a_tried, .int m_undoMany, .int m_undoAt, .ref a_undos, .int m_seenMany, .ref a_seenHour, .ref a_seenAt, .ref a_parts, .ref a_partsThen, .int m_keptMany, .ref a_kept])), (a_now, .inl (cI, 26, .inl m_now)), (a_undos, .inl (cI, 208, .inl m_undos))] [(ax, .inr (8, [.int m_letterMany, .ref a_text, .int m_readAt, .ref a_told, .ref a_readLaw, .ref a_readNow, .ref a_law, .ref a_now, .ref a_tried, .int m_undoMany', .int m_undoAt', .ref a_undos, .int m_seenMany, .ref a_seenHour, .ref a_seenAt, .ref a_parts, .ref a_partsThen, .int m_keptMany, .ref a_kept])), (a_now, .inl (cI, 26, .inl m_now')), (a_undos, .inl (cI, 208, .inl m_undos))] rr := by
  refine CI.of (cc := cX8_undo) (nL := 2) (ret := (some .int)) (by decide) rfl (Nat.le_of_ble_eq_true rfl) ?_
  intro p e s m args below meth c A hC hP hD hS ls hl
  obtain ⟨hx, hb, hml, hown, hts, hr, hlk, hG, hA⟩ := id hC
  have hown : s.vm.findClass RX8 = some m.cls := hown
  have hK := hG.1
  have hl : lv_has ls 2 [(0, .ref ax)] := hl
  have k_f99 := hts (.fieldLink RX8 99 "ParasolHoursModel" "undoMany" "I") (List.mem_of_getElem? (i := 1) rfl)
  have k_f156 := hts (.fieldLink RX8 156 "ParasolHoursModel" "undoAt" "I") (List.mem_of_getElem? (i := 2) rfl)
  have k_f25 := hts (.fieldLink RX8 25 "ParasolHoursModel" "now" "[I") (List.mem_of_getElem? (i := 3) rfl)
  have k_f31 := hts (.fieldLink RX8 31 "ParasolHoursModel" "undos" "[I") (List.mem_of_getElem? (i := 4) rfl)
  have iX8 : ∀ w ∈ wsX80, w ∈ wsX8_undo := by decide +kernel
  obtain ⟨Q, hQ⟩ : ∃ Q, Q = MQ below (QI D [(ax, .inr (8, [.int m_letterMany, .ref a_text, .int m_readAt, .ref a_told, .ref a_readLaw, .ref a_readNow, .ref a_law, .ref a_now, .ref a_tried, .int m_undoMany', .int m_undoAt', .ref a_undos, .int m_seenMany, .ref a_seenHour, .ref a_seenAt, .ref a_parts, .ref a_partsThen, .int m_keptMany, .ref a_kept])), (a_now, .inl (cI, 26, .inl m_now')), (a_undos, .inl (cI, 208, .inl m_undos))] rr A) args s 0 0 A := ⟨_, rfl⟩
  rw [← hQ]
  unfold f_X8_undo at hF
  refine lv_aload_n hx hb dX8_undo_0 rfl (lv_at hl 0 rfl) ?_
  refine va_get (D := D) (ci := 8) (v := .int m_undoMany) (C := RX8) (T := TX8) (N := 19) hx hb hts iX8 hown hK hP 0 rfl rfl 9 (by decide) k_f99 (fun _ h9 => h9) rfl dX8_undo_1 ?_
  refine lv_if_ne (tgt := 10) hx hb dX8_undo_4 (by decide) (fun c1 => ?_) (fun c1 => ?_)
  · have hF := op_neg c1 hF
    refine lv_aload_n hx hb dX8_undo_10 rfl (lv_at hl 0 rfl) ?_
    refine lv_aload_n hx hb dX8_undo_11 rfl (lv_at hl 0 rfl) ?_
    refine va_get (D := D) (ci := 8) (v := .int m_undoAt) (C := RX8) (T := TX8) (N := 19) hx hb hts iX8 hown hK hP 0 rfl rfl 10 (by decide) k_f156 (fun _ h9 => h9) rfl dX8_undo_12 ?_
    refine lv_bipush (v := (8 : Int32)) hx hb dX8_undo_15 (by decide) ?_
    refine lv_iadd hx hb dX8_undo_17 ?_
    refine lv_iconst (v := (1 : Int32)) hx hb dX8_undo_18 (by decide) ?_
    refine lv_isub hx hb dX8_undo_19 ?_
    refine lv_bipush (v := (8 : Int32)) hx hb dX8_undo_20 (by decide) ?_
    refine lv_irem hx hb dX8_undo_22 (by decide) ?_
    refine va_put (D := D) (ci := 8) (v := .int (jrem ((m_undoAt + (8 : Int32)) - (1 : Int32)) (8 : Int32))) (ty := .int) (C := RX8) (T := TX8) (N := 19) hx hb hts iX8 tyX8 tyX8_ok nmX8 hown hK hP hD hS 0 rfl rfl 10 (by decide) k_f156 (fun _ h9 => h9) rfl (by decide +kernel) rfl rfl (Nat.le_of_ble_eq_true rfl) dX8_undo_23 (fun H locs hP hD hS => ?_)
    have hP : va_P D vwCl [(ax, .inr (8, [.int m_letterMany, .ref a_text, .int m_readAt, .ref a_told, .ref a_readLaw, .ref a_readNow, .ref a_law, .ref a_now, .ref a_tried, .int m_undoMany, .int (jrem ((m_undoAt + (8 : Int32)) - (1 : Int32)) (8 : Int32)), .ref a_undos, .int m_seenMany, .ref a_seenHour, .ref a_seenAt, .ref a_parts, .ref a_partsThen, .int m_keptMany, .ref a_kept])), (a_now, .inl (cI, 26, .inl m_now)), (a_undos, .inl (cI, 208, .inl m_undos))] H := hP
    have hD : va_D A [(ax, .inr (8, [.int m_letterMany, .ref a_text, .int m_readAt, .ref a_told, .ref a_readLaw, .ref a_readNow, .ref a_law, .ref a_now, .ref a_tried, .int m_undoMany, .int (jrem ((m_undoAt + (8 : Int32)) - (1 : Int32)) (8 : Int32)), .ref a_undos, .int m_seenMany, .ref a_seenHour, .ref a_seenAt, .ref a_parts, .ref a_partsThen, .int m_keptMany, .ref a_kept])), (a_now, .inl (cI, 26, .inl m_now)), (a_undos, .inl (cI, 208, .inl m_undos))] := hD
    refine lv_aload_n hx hb dX8_undo_26 rfl (lv_at hl 0 rfl) ?_
    refine lv_dup hx hb dX8_undo_27 rfl ?_
    refine va_get (D := D) (ci := 8) (v := .int m_undoMany) (C := RX8) (T := TX8) (N := 19) hx hb hts iX8 hown hK hP 0 rfl rfl 9 (by decide) k_f99 (fun _ h9 => h9) rfl dX8_undo_28 ?_
    refine lv_iconst (v := (1 : Int32)) hx hb dX8_undo_31 (by decide) ?_
    refine lv_isub hx hb dX8_undo_32 ?_
    refine va_put (D := D) (ci := 8) (v := .int (m_undoMany - (1 : Int32))) (ty := .int) (C := RX8) (T := TX8) (N := 19) hx hb hts iX8 tyX8 tyX8_ok nmX8 hown hK hP hD hS 0 rfl rfl 9 (by decide) k_f99 (fun _ h9 => h9) rfl (by decide +kernel) rfl rfl (Nat.le_of_ble_eq_true rfl) dX8_undo_33 (fun H locs hP hD hS => ?_)
    have hP : va_P D vwCl [(ax, .inr (8, [.int m_letterMany, .ref a_text, .int m_readAt, .ref a_told, .ref a_readLaw, .ref a_readNow, .ref a_law, .ref a_now, .ref a_tried, .int (m_undoMany - (1 : Int32)), .int (jrem ((m_undoAt + (8 : Int32)) - (1 : Int32)) (8 : Int32)), .ref a_undos, .int m_seenMany, .ref a_seenHour, .ref a_seenAt, .ref a_parts, .ref a_partsThen, .int m_keptMany, .ref a_kept])), (a_now, .inl (cI, 26, .inl m_now)), (a_undos, .inl (cI, 208, .inl m_undos))] H := hP
    have hD : va_D A [(ax, .inr (8, [.int m_letterMany, .ref a_text, .int m_readAt, .ref a_told, .ref a_readLaw, .ref a_readNow, .ref a_law, .ref a_now, .ref a_tried, .int (m_undoMany - (1 : Int32)), .int (jrem ((m_undoAt + (8 : Int32)) - (1 : Int32)) (8 : Int32)), .ref a_undos, .int m_seenMany, .ref a_seenHour, .ref a_seenAt, .ref a_parts, .ref a_partsThen, .int m_keptMany, .ref a_kept])), (a_now, .inl (cI, 26, .inl m_now)), (a_undos, .inl (cI, 208, .inl m_undos))] := hD
    refine lv_iconst (v := (0 : Int32)) hx hb dX8_undo_36 (by decide) ?_
    refine lv_istore_n (lv' := [(1, .int (0 : Int32)), (0, .ref ax)]) hx hb dX8_undo_37 rfl hl (by decide) rfl (fun ls hl => ?_)
    have hL38 : ∀ (k38 : Int32 → (Nat → Int32) → Option (Int32 × Int32 × Int32 × (Nat → Int32))), (∀ (v2 : Int32) (m_now_3 : (Nat → Int32)) (H : Heap) (locs : List Loc), va_P D vwCl [(ax, .inr (8, [.int m_letterMany, .ref a_text, .int m_readAt, .ref a_told, .ref a_readLaw, .ref a_readNow, .ref a_law, .ref a_now, .ref a_tried, .int (m_undoMany - (1 : Int32)), .int (jrem ((m_undoAt + (8 : Int32)) - (1 : Int32)) (8 : Int32)), .ref a_undos, .int m_seenMany, .ref a_seenHour, .ref a_seenAt, .ref a_parts, .ref a_partsThen, .int m_keptMany, .ref a_kept])), (a_now, .inl (cI, 26, .inl m_now_3)), (a_undos, .inl (cI, 208, .inl m_undos))] H → va_D A [(ax, .inr (8, [.int m_letterMany, .ref a_text, .int m_readAt, .ref a_told, .ref a_readLaw, .ref a_readNow, .ref a_law, .ref a_now, .ref a_tried, .int (m_undoMany - (1 : Int32)), .int (jrem ((m_undoAt + (8 : Int32)) - (1 : Int32)) (8 : Int32)), .ref a_undos, .int m_seenMany, .ref a_seenHour, .ref a_seenAt, .ref a_parts, .ref a_partsThen, .int m_keptMany, .ref a_kept])), (a_now, .inl (cI, 26, .inl m_now_3)), (a_undos, .inl (cI, 208, .inl m_undos))] → va_S A s.heap H locs → ∀ ls : Array Slot, lv_has ls 2 [(0, .ref ax)] → k38 v2 m_now_3 = some (rr, m_undoMany', m_undoAt', m_now') → W p l e rm_X8_undo s m args below meth c H locs 0 0 Q (F0 m 70 ls [])) → ∀ (nf38 : Nat) (v2 : Int32) (m_now_3 : (Nat → Int32)) (H : Heap) (locs : List Loc), va_P D vwCl [(ax, .inr (8, [.int m_letterMany, .ref a_text, .int m_readAt, .ref a_told, .ref a_readLaw, .ref a_readNow, .ref a_law, .ref a_now, .ref a_tried, .int (m_undoMany - (1 : Int32)), .int (jrem ((m_undoAt + (8 : Int32)) - (1 : Int32)) (8 : Int32)), .ref a_undos, .int m_seenMany, .ref a_seenHour, .ref a_seenAt, .ref a_parts, .ref a_partsThen, .int m_keptMany, .ref a_kept])), (a_now, .inl (cI, 26, .inl m_now_3)), (a_undos, .inl (cI, 208, .inl m_undos))] H → va_D A [(ax, .inr (8, [.int m_letterMany, .ref a_text, .int m_readAt, .ref a_told, .ref a_readLaw, .ref a_readNow, .ref a_law, .ref a_now, .ref a_tried, .int (m_undoMany - (1 : Int32)), .int (jrem ((m_undoAt + (8 : Int32)) - (1 : Int32)) (8 : Int32)), .ref a_undos, .int m_seenMany, .ref a_seenHour, .ref a_seenAt, .ref a_parts, .ref a_partsThen, .int m_keptMany, .ref a_kept])), (a_now, .inl (cI, 26, .inl m_now_3)), (a_undos, .inl (cI, 208, .inl m_undos))] → va_S A s.heap H locs → ∀ ls : Array Slot, lv_has ls 2 [(1, .int v2), (0, .ref ax)] → f_X8_undo_L38 m_undoAt m_undos k38 nf38 v2 m_now_3 = some (rr, m_undoMany', m_undoAt', m_now') → W p l e rm_X8_undo s m args below meth c H locs 0 0 Q (F0 m 38 ls []) := by
      intro k38 hk38 nf38
      induction nf38 with
      | zero =>
        intro v2 m_now_3 H locs hP hD hS ls hl hF
        rw [f_X8_undo_L38_0] at hF
        cases hF
      | succ nf38 ih38 =>
        intro v2 m_now_3 H locs hP hD hS ls hl hF
        rw [f_X8_undo_L38_s] at hF
        refine lv_iload_n hx hb dX8_undo_38 rfl (lv_at hl 0 rfl) ?_
        refine lv_bipush (v := (26 : Int32)) hx hb dX8_undo_39 (by decide) ?_
        refine lv_icmp_ge (tgt := 70) hx hb dX8_undo_41 (by decide) (fun c4 => ?_) (fun c4 => ?_)
        · have hF := op_pos c4 hF
          exact hk38 v2 m_now_3 _ _ hP hD hS _ (lv_sub hl [1] rfl) hF
        · have hF := op_neg c4 hF
          refine lv_aload_n hx hb dX8_undo_44 rfl (lv_at hl 1 rfl) ?_
          refine va_get (D := D) (ci := 8) (v := .ref a_now) (C := RX8) (T := TX8) (N := 19) hx hb hts iX8 hown hK hP 0 rfl rfl 7 (by decide) k_f25 (fun _ h9 => h9) rfl dX8_undo_45 ?_
          refine lv_iload_n hx hb dX8_undo_48 rfl (lv_at hl 0 rfl) ?_
          refine lv_aload_n hx hb dX8_undo_49 rfl (lv_at hl 1 rfl) ?_
          refine va_get (D := D) (ci := 8) (v := .ref a_undos) (C := RX8) (T := TX8) (N := 19) hx hb hts iX8 hown hK hP 0 rfl rfl 11 (by decide) k_f31 (fun _ h9 => h9) rfl dX8_undo_50 ?_
          refine lv_bipush (v := (26 : Int32)) hx hb dX8_undo_53 (by decide) ?_
          refine lv_aload_n hx hb dX8_undo_55 rfl (lv_at hl 1 rfl) ?_
          refine va_get (D := D) (ci := 8) (v := .int (jrem ((m_undoAt + (8 : Int32)) - (1 : Int32)) (8 : Int32))) (C := RX8) (T := TX8) (N := 19) hx hb hts iX8 hown hK hP 0 rfl rfl 10 (by decide) k_f156 (fun _ h9 => h9) rfl dX8_undo_56 ?_
          refine lv_imul hx hb dX8_undo_59 ?_
          refine lv_iload_n hx hb dX8_undo_60 rfl (lv_at hl 0 rfl) ?_
          refine lv_iadd hx hb dX8_undo_61 ?_
          obtain ⟨o5, hF⟩ := op_ob hF
          refine va_iald hx hb hK hP 2 0 rfl rfl (okb_in o5) dX8_undo_62 ?_
          obtain ⟨o6, hF⟩ := op_ob hF
          refine va_iast hx hb hK hP hD hS 1 0 rfl rfl (okb_in o6) dX8_undo_63 (fun H locs hP hD hS => ?_)
          have hP : va_P D vwCl [(ax, .inr (8, [.int m_letterMany, .ref a_text, .int m_readAt, .ref a_told, .ref a_readLaw, .ref a_readNow, .ref a_law, .ref a_now, .ref a_tried, .int (m_undoMany - (1 : Int32)), .int (jrem ((m_undoAt + (8 : Int32)) - (1 : Int32)) (8 : Int32)), .ref a_undos, .int m_seenMany, .ref a_seenHour, .ref a_seenAt, .ref a_parts, .ref a_partsThen, .int m_keptMany, .ref a_kept])), (a_now, .inl (cI, 26, .inl (upd m_now_3 v2.toNatClampNeg (m_undos (((26 : Int32) * (jrem ((m_undoAt + (8 : Int32)) - (1 : Int32)) (8 : Int32))) + v2).toNatClampNeg)))), (a_undos, .inl (cI, 208, .inl m_undos))] H := hP
          have hD : va_D A [(ax, .inr (8, [.int m_letterMany, .ref a_text, .int m_readAt, .ref a_told, .ref a_readLaw, .ref a_readNow, .ref a_law, .ref a_now, .ref a_tried, .int (m_undoMany - (1 : Int32)), .int (jrem ((m_undoAt + (8 : Int32)) - (1 : Int32)) (8 : Int32)), .ref a_undos, .int m_seenMany, .ref a_seenHour, .ref a_seenAt, .ref a_parts, .ref a_partsThen, .int m_keptMany, .ref a_kept])), (a_now, .inl (cI, 26, .inl (upd m_now_3 v2.toNatClampNeg (m_undos (((26 : Int32) * (jrem ((m_undoAt + (8 : Int32)) - (1 : Int32)) (8 : Int32))) + v2).toNatClampNeg)))), (a_undos, .inl (cI, 208, .inl m_undos))] := hD
          refine lv_iinc (v := (v2 + (1 : Int32))) (lv' := [(1, .int (v2 + (1 : Int32))), (0, .ref ax)]) hx hb dX8_undo_64 hl (k := 0) rfl (by first | rfl | decide) (by decide) rfl (fun ls hl => ?_)
          refine lv_goto (tgt := 38) hx hb dX8_undo_67 (by decide) ?_
          exact ih38 (v2 + (1 : Int32)) (upd m_now_3 v2.toNatClampNeg (m_undos (((26 : Int32) * (jrem ((m_undoAt + (8 : Int32)) - (1 : Int32)) (8 : Int32))) + v2).toNatClampNeg)) _ _ hP hD hS _ (lv_sub hl [0, 1] rfl) hF
    refine hL38 _ (fun v2 m_now_3 H locs hP hD hS ls hl hF => ?_) 20000 (0 : Int32) m_now _ _ hP hD hS _ (lv_sub hl [0, 1] rfl) hF
    refine lv_aload_n hx hb dX8_undo_70 rfl (lv_at hl 0 rfl) ?_
    refine va_get (D := D) (ci := 8) (v := .int (m_undoMany - (1 : Int32))) (C := RX8) (T := TX8) (N := 19) hx hb hts iX8 hown hK hP 0 rfl rfl 9 (by decide) k_f99 (fun _ h9 => h9) rfl dX8_undo_71 ?_
    cases hF
    rw [hQ]
    exact xri hC hP hS dX8_undo_74
  · have hF := op_pos c1 hF
    refine lv_bipush (v := (-2 : Int32)) hx hb dX8_undo_7 (by decide) ?_
    cases hF
    rw [hQ]
    exact xri hC hP hS dX8_undo_9
