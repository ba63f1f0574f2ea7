def f_X1_clear_L22  (k22 : Int32 → (Nat → Int32) → Option (Int32 × Int32 × Int32 × Int32 × (Nat → Int32))) : Nat → Int32 → (Nat → Int32) → Option (Int32 × Int32 × Int32 × Int32 × (Nat → Int32))
  | 0, _, _ => none
  | nf22 + 1, v1, qunder_2 => (if (5 : Int32) ≤ v1 then (k22 v1 qunder_2) else (if okb v1 5 = true then (f_X1_clear_L22 k22 nf22 (v1 + (1 : Int32)) (upd qunder_2 v1.toNatClampNeg (-4 : Int32))) else none))
theorem f_X1_clear_L22_0  (k22 : Int32 → (Nat → Int32) → Option (Int32 × Int32 × Int32 × Int32 × (Nat → Int32))) (v1 : Int32) (qunder_2 : (Nat → Int32)) : f_X1_clear_L22 k22 0 v1 qunder_2 = none := rfl
theorem f_X1_clear_L22_s  (k22 : Int32 → (Nat → Int32) → Option (Int32 × Int32 × Int32 × Int32 × (Nat → Int32))) (nf22 : Nat) (v1 : Int32) (qunder_2 : (Nat → Int32)) : f_X1_clear_L22 k22 (nf22 + 1) v1 qunder_2 = (if (5 : Int32) ≤ v1 then (k22 v1 qunder_2) else (if okb v1 5 = true then (f_X1_clear_L22 k22 nf22 (v1 + (1 : Int32)) (upd qunder_2 v1.toNatClampNeg (-4 : Int32))) else none)) := rfl

def f_X1_clear (qunder : (Nat → Int32)) : Option (Int32 × Int32 × Int32 × Int32 × (Nat → Int32)) := (f_X1_clear_L22 (fun (v1 : Int32) (qunder_2 : (Nat → Int32)) => (some ((0 : Int32), (0 : Int32), (0 : Int32), (0 : Int32), qunder_2))) 20000 (0 : Int32) qunder)

def rm_X1_clear : Room := { frames := 0, cells := 0, slots := 0, locals := 0 }

theorem pd_X1_clear : yX1_clear.cls ≠ "java/lang/invoke/MethodHandle" ∧ yX1_clear.cls ≠ "java/lang/invoke/VarHandle" ∧ (parseMethodDescriptor yX1_clear.desc).map (fun d => d.parameters.length) = some 0 := by decide +kernel

set_option maxHeartbeats 4000000 in
set_option maxRecDepth 100000 in
theorem c_X1_clear (l : Launch) (D : va_G) (cI cC cM : ClassId) (aq aqh aqw aqs aqu ap : Nat) (qgone : Int32) (qmet : Int32) (qstill : Int32) (qdone : Int32) (qhour : (Nat → Int32)) (qworn : (Nat → Int32)) (qsquare : (Nat → Int32)) (qunder : (Nat → Int32)) (qgone' : Int32) (qmet' : Int32) (qstill' : Int32) (qdone' : Int32) (qunder' : (Nat → Int32)) (hF : f_X1_clear qunder = some (qgone', qmet', qstill', qdone', qunder')) : CV l D cI cC cM yX1_clear wsX1_clear rm_X1_clear [.ref aq] [(aq, .inr (1, [.ref ap, .int qgone, .int qmet, .int qstill, .int qdone, .ref aqh, .ref aqw, .ref aqs, .ref aqu])), (aqh, .inl (cI, 6, .inl qhour)), (aqw, .inl (cI, 6, .inl qworn)), (aqs, .inl (cI, 5, .inl qsquare)), (aqu, .inl (cI, 5, .inl qunder))] [(aq, .inr (1, [.ref ap, .int qgone', .int qmet', .int qstill', .int qdone', .ref aqh, .ref aqw, .ref aqs, .ref aqu])), (aqh, .inl (cI, 6, .inl qhour)), (aqw, .inl (cI, 6, .inl qworn)), (aqs, .inl (cI, 5, .inl qsquare)), (aqu, .inl (cI, 5, .inl qunder'))] := by
  refine CV.of (cc := cX1_clear) (nL := 2) (ret := none) (by decide) rfl (Nat.le_of_ble_eq_true rfl) ?_
  intro p e s m args below meth c A hC hP hD hS ls hl
  obtain ⟨hx, hb, hml, hown, hts, hr, hlk, hG, hA⟩ := id hC
  have hown : s.vm.findClass RX1 = some m.cls := hown
  have hK := hG.1
  have hl : lv_has ls 2 [(0, .ref aq)] := hl
  have k_f28 := hts (.fieldLink RX1 28 "ParasolHours$Moment" "gone" "I") (List.mem_of_getElem? (i := 1) rfl)
  have k_f32 := hts (.fieldLink RX1 32 "ParasolHours$Moment" "met" "I") (List.mem_of_getElem? (i := 2) rfl)
  have k_f35 := hts (.fieldLink RX1 35 "ParasolHours$Moment" "stillBits" "I") (List.mem_of_getElem? (i := 3) rfl)
  have k_f38 := hts (.fieldLink RX1 38 "ParasolHours$Moment" "doneBits" "I") (List.mem_of_getElem? (i := 4) rfl)
  have k_f21 := hts (.fieldLink RX1 21 "ParasolHours$Moment" "under" "[I") (List.mem_of_getElem? (i := 5) rfl)
  have iX1 : ∀ w ∈ wsX10, w ∈ wsX1_clear := by decide +kernel
  obtain ⟨Q, hQ⟩ : ∃ Q, Q = MQ below (QV D [(aq, .inr (1, [.ref ap, .int qgone', .int qmet', .int qstill', .int qdone', .ref aqh, .ref aqw, .ref aqs, .ref aqu])), (aqh, .inl (cI, 6, .inl qhour)), (aqw, .inl (cI, 6, .inl qworn)), (aqs, .inl (cI, 5, .inl qsquare)), (aqu, .inl (cI, 5, .inl qunder'))] A) args s 0 0 A := ⟨_, rfl⟩
  rw [← hQ]
  unfold f_X1_clear at hF
  refine lv_aload_n hx hb dX1_clear_0 rfl (lv_at hl 0 rfl) ?_
  refine lv_iconst (v := (0 : Int32)) hx hb dX1_clear_1 (by decide) ?_
  refine va_put (D := D) (ci := 1) (v := .int (0 : Int32)) (ty := .int) (C := RX1) (T := TX1) (N := 9) hx hb hts iX1 tyX1 tyX1_ok nmX1 hown hK hP hD hS 0 rfl rfl 1 (by decide) k_f28 (fun _ h9 => h9) rfl (by decide +kernel) rfl rfl (Nat.le_of_ble_eq_true rfl) dX1_clear_2 (fun H locs hP hD hS => ?_)
  have hP : va_P D vwCl [(aq, .inr (1, [.ref ap, .int (0 : Int32), .int qmet, .int qstill, .int qdone, .ref aqh, .ref aqw, .ref aqs, .ref aqu])), (aqh, .inl (cI, 6, .inl qhour)), (aqw, .inl (cI, 6, .inl qworn)), (aqs, .inl (cI, 5, .inl qsquare)), (aqu, .inl (cI, 5, .inl qunder))] H := hP
  have hD : va_D A [(aq, .inr (1, [.ref ap, .int (0 : Int32), .int qmet, .int qstill, .int qdone, .ref aqh, .ref aqw, .ref aqs, .ref aqu])), (aqh, .inl (cI, 6, .inl qhour)), (aqw, .inl (cI, 6, .inl qworn)), (aqs, .inl (cI, 5, .inl qsquare)), (aqu, .inl (cI, 5, .inl qunder))] := hD
  refine lv_aload_n hx hb dX1_clear_5 rfl (lv_at hl 0 rfl) ?_
  refine lv_iconst (v := (0 : Int32)) hx hb dX1_clear_6 (by decide) ?_
  refine va_put (D := D) (ci := 1) (v := .int (0 : Int32)) (ty := .int) (C := RX1) (T := TX1) (N := 9) hx hb hts iX1 tyX1 tyX1_ok nmX1 hown hK hP hD hS 0 rfl rfl 2 (by decide) k_f32 (fun _ h9 => h9) rfl (by decide +kernel) rfl rfl (Nat.le_of_ble_eq_true rfl) dX1_clear_7 (fun H locs hP hD hS => ?_)
  have hP : va_P D vwCl [(aq, .inr (1, [.ref ap, .int (0 : Int32), .int (0 : Int32), .int qstill, .int qdone, .ref aqh, .ref aqw, .ref aqs, .ref aqu])), (aqh, .inl (cI, 6, .inl qhour)), (aqw, .inl (cI, 6, .inl qworn)), (aqs, .inl (cI, 5, .inl qsquare)), (aqu, .inl (cI, 5, .inl qunder))] H := hP
  have hD : va_D A [(aq, .inr (1, [.ref ap, .int (0 : Int32), .int (0 : Int32), .int qstill, .int qdone, .ref aqh, .ref aqw, .ref aqs, .ref aqu])), (aqh, .inl (cI, 6, .inl qhour)), (aqw, .inl (cI, 6, .inl qworn)), (aqs, .inl (cI, 5, .inl qsquare)), (aqu, .inl (cI, 5, .inl qunder))] := hD
  refine lv_aload_n hx hb dX1_clear_10 rfl (lv_at hl 0 rfl) ?_
  refine lv_iconst (v := (0 : Int32)) hx hb dX1_clear_11 (by decide) ?_
  refine va_put (D := D) (ci := 1) (v := .int (0 : Int32)) (ty := .int) (C := RX1) (T := TX1) (N := 9) hx hb hts iX1 tyX1 tyX1_ok nmX1 hown hK hP hD hS 0 rfl rfl 3 (by decide) k_f35 (fun _ h9 => h9) rfl (by decide +kernel) rfl rfl (Nat.le_of_ble_eq_true rfl) dX1_clear_12 (fun H locs hP hD hS => ?_)
  have hP : va_P D vwCl [(aq, .inr (1, [.ref ap, .int (0 : Int32), .int (0 : Int32), .int (0 : Int32), .int qdone, .ref aqh, .ref aqw, .ref aqs, .ref aqu])), (aqh, .inl (cI, 6, .inl qhour)), (aqw, .inl (cI, 6, .inl qworn)), (aqs, .inl (cI, 5, .inl qsquare)), (aqu, .inl (cI, 5, .inl qunder))] H := hP
  have hD : va_D A [(aq, .inr (1, [.ref ap, .int (0 : Int32), .int (0 : Int32), .int (0 : Int32), .int qdone, .ref aqh, .ref aqw, .ref aqs, .ref aqu])), (aqh, .inl (cI, 6, .inl qhour)), (aqw, .inl (cI, 6, .inl qworn)), (aqs, .inl (cI, 5, .inl qsquare)), (aqu, .inl (cI, 5, .inl qunder))] := hD
  refine lv_aload_n hx hb dX1_clear_15 rfl (lv_at hl 0 rfl) ?_
  refine lv_iconst (v := (0 : Int32)) hx hb dX1_clear_16 (by decide) ?_
  refine va_put (D := D) (ci := 1) (v := .int (0 : Int32)) (ty := .int) (C := RX1) (T := TX1) (N := 9) hx hb hts iX1 tyX1 tyX1_ok nmX1 hown hK hP hD hS 0 rfl rfl 4 (by decide) k_f38 (fun _ h9 => h9) rfl (by decide +kernel) rfl rfl (Nat.le_of_ble_eq_true rfl) dX1_clear_17 (fun H locs hP hD hS => ?_)
  have hP : va_P D vwCl [(aq, .inr (1, [.ref ap, .int (0 : Int32), .int (0 : Int32), .int (0 : Int32), .int (0 : Int32), .ref aqh, .ref aqw, .ref aqs, .ref aqu])), (aqh, .inl (cI, 6, .inl qhour)), (aqw, .inl (cI, 6, .inl qworn)), (aqs, .inl (cI, 5, .inl qsquare)), (aqu, .inl (cI, 5, .inl qunder))] H := hP
  have hD : va_D A [(aq, .inr (1, [.ref ap, .int (0 : Int32), .int (0 : Int32), .int (0 : Int32), .int (0 : Int32), .ref aqh, .ref aqw, .ref aqs, .ref aqu])), (aqh, .inl (cI, 6, .inl qhour)), (aqw, .inl (cI, 6, .inl qworn)), (aqs, .inl (cI, 5, .inl qsquare)), (aqu, .inl (cI, 5, .inl qunder))] := hD
  refine lv_iconst (v := (0 : Int32)) hx hb dX1_clear_20 (by decide) ?_
  refine lv_istore_n (lv' := [(1, .int (0 : Int32)), (0, .ref aq)]) hx hb dX1_clear_21 rfl hl (by decide) rfl (fun ls hl => ?_)
  have hL22 : ∀ (k22 : Int32 → (Nat → Int32) → Option (Int32 × Int32 × Int32 × Int32 × (Nat → Int32))), (∀ (v1 : Int32) (qunder_2 : (Nat → Int32)) (H : Heap) (locs : List Loc), va_P D vwCl [(aq, .inr (1, [.ref ap, .int (0 : Int32), .int (0 : Int32), .int (0 : Int32), .int (0 : Int32), .ref aqh, .ref aqw, .ref aqs, .ref aqu])), (aqh, .inl (cI, 6, .inl qhour)), (aqw, .inl (cI, 6, .inl qworn)), (aqs, .inl (cI, 5, .inl qsquare)), (aqu, .inl (cI, 5, .inl qunder_2))] H → va_D A [(aq, .inr (1, [.ref ap, .int (0 : Int32), .int (0 : Int32), .int (0 : Int32), .int (0 : Int32), .ref aqh, .ref aqw, .ref aqs, .ref aqu])), (aqh, .inl (cI, 6, .inl qhour)), (aqw, .inl (cI, 6, .inl qworn)), (aqs, .inl (cI, 5, .inl qsquare)), (aqu, .inl (cI, 5, .inl qunder_2))] → va_S A s.heap H locs → ∀ ls : Array Slot, lv_has ls 2 [] → k22 v1 qunder_2 = some (qgone', qmet', qstill', qdone', qunder') → W p l e rm_X1_clear s m args below meth c H locs 0 0 Q (F0 m 45 ls [])) → ∀ (nf22 : Nat) (v1 : Int32) (qunder_2 : (Nat → Int32)) (H : Heap) (locs : List Loc), va_P D vwCl [(aq, .inr (1, [.ref ap, .int (0 : Int32), .int (0 : Int32), .int (0 : Int32), .int (0 : Int32), .ref aqh, .ref aqw, .ref aqs, .ref aqu])), (aqh, .inl (cI, 6, .inl qhour)), (aqw, .inl (cI, 6, .inl qworn)), (aqs, .inl (cI, 5, .inl qsquare)), (aqu, .inl (cI, 5, .inl qunder_2))] H → va_D A [(aq, .inr (1, [.ref ap, .int (0 : Int32), .int (0 : Int32), .int (0 : Int32), .int (0 : Int32), .ref aqh, .ref aqw, .ref aqs, .ref aqu])), (aqh, .inl (cI, 6, .inl qhour)), (aqw, .inl (cI, 6, .inl qworn)), (aqs, .inl (cI, 5, .inl qsquare)), (aqu, .inl (cI, 5, .inl qunder_2))] → va_S A s.heap H locs → ∀ ls : Array Slot, lv_has ls 2 [(1, .int v1), (0, .ref aq)] → f_X1_clear_L22 k22 nf22 v1 qunder_2 = some (qgone', qmet', qstill', qdone', qunder') → W p l e rm_X1_clear s m args below meth c H locs 0 0 Q (F0 m 22 ls []) := by
    intro k22 hk22 nf22
    induction nf22 with
    | zero =>
      intro v1 qunder_2 H locs hP hD hS ls hl hF
      rw [f_X1_clear_L22_0] at hF
      cases hF
    | succ nf22 ih22 =>
      intro v1 qunder_2 H locs hP hD hS ls hl hF
      rw [f_X1_clear_L22_s] at hF
      refine lv_iload_n hx hb dX1_clear_22 rfl (lv_at hl 0 rfl) ?_
      refine lv_aload_n hx hb dX1_clear_23 rfl (lv_at hl 1 rfl) ?_
      refine va_get (D := D) (ci := 1) (v := .ref aqu) (C := RX1) (T := TX1) (N := 9) hx hb hts iX1 hown hK hP 0 rfl rfl 8 (by decide) k_f21 (fun _ h9 => h9) rfl dX1_clear_24 ?_
      refine va_alen hx hb hK hP 4 0 rfl rfl (v := (5 : Int32)) rfl dX1_clear_27 ?_
      refine lv_icmp_ge (tgt := 45) hx hb dX1_clear_28 (by decide) (fun c3 => ?_) (fun c3 => ?_)
      · have hF := op_pos c3 hF
        exact hk22 v1 qunder_2 _ _ hP hD hS _ (lv_sub hl [] rfl) hF
      · have hF := op_neg c3 hF
        refine lv_aload_n hx hb dX1_clear_31 rfl (lv_at hl 1 rfl) ?_
        refine va_get (D := D) (ci := 1) (v := .ref aqu) (C := RX1) (T := TX1) (N := 9) hx hb hts iX1 hown hK hP 0 rfl rfl 8 (by decide) k_f21 (fun _ h9 => h9) rfl dX1_clear_32 ?_
        refine lv_iload_n hx hb dX1_clear_35 rfl (lv_at hl 0 rfl) ?_
        refine lv_bipush (v := (-4 : Int32)) hx hb dX1_clear_36 (by decide) ?_
        obtain ⟨o4, hF⟩ := op_ob hF
        refine va_iast hx hb hK hP hD hS 4 0 rfl rfl (okb_in o4) dX1_clear_38 (fun H locs hP hD hS => ?_)
        have hP : va_P D vwCl [(aq, .inr (1, [.ref ap, .int (0 : Int32), .int (0 : Int32), .int (0 : Int32), .int (0 : Int32), .ref aqh, .ref aqw, .ref aqs, .ref aqu])), (aqh, .inl (cI, 6, .inl qhour)), (aqw, .inl (cI, 6, .inl qworn)), (aqs, .inl (cI, 5, .inl qsquare)), (aqu, .inl (cI, 5, .inl (upd qunder_2 v1.toNatClampNeg (-4 : Int32))))] H := hP
        have hD : va_D A [(aq, .inr (1, [.ref ap, .int (0 : Int32), .int (0 : Int32), .int (0 : Int32), .int (0 : Int32), .ref aqh, .ref aqw, .ref aqs, .ref aqu])), (aqh, .inl (cI, 6, .inl qhour)), (aqw, .inl (cI, 6, .inl qworn)), (aqs, .inl (cI, 5, .inl qsquare)), (aqu, .inl (cI, 5, .inl (upd qunder_2 v1.toNatClampNeg (-4 : Int32))))] := hD
        refine lv_iinc (v := (v1 + (1 : Int32))) (lv' := [(1, .int (v1 + (1 : Int32))), (0, .ref aq)]) hx hb dX1_clear_39 hl (k := 0) rfl (by first | rfl | decide) (by decide) rfl (fun ls hl => ?_)
        refine lv_goto (tgt := 22) hx hb dX1_clear_42 (by decide) ?_
        exact ih22 (v1 + (1 : Int32)) (upd qunder_2 v1.toNatClampNeg (-4 : Int32)) _ _ hP hD hS _ (lv_sub hl [0, 1] rfl) hF
  refine hL22 _ (fun v1 qunder_2 H locs hP hD hS ls hl hF => ?_) 20000 (0 : Int32) qunder _ _ hP hD hS _ (lv_sub hl [0, 1] rfl) hF
  cases hF
  rw [hQ]
  exact xrv hC hP hS dX1_clear_45

def f_X1_copyFrom (qhour : (Nat → Int32)) (qworn : (Nat → Int32)) (qsquare : (Nat → Int32)) (qunder : (Nat → Int32)) (jgone : Int32) (jmet : Int32) (jstill : Int32) (jdone : Int32) (jhour : (Nat → Int32)) (jworn : (Nat → Int32)) (jsquare : (Nat → Int32)) (junder : (Nat → Int32)) : Option (Int32 × Int32 × Int32 × Int32 × (Nat → Int32) × (Nat → Int32) × (Nat → Int32) × (Nat → Int32)) := (Option.bind (f_X7_copyRow 6 6 jhour qhour) fun g_1 => (Option.bind (f_X7_copyRow 6 6 jworn qworn) fun g_3 => (Option.bind (f_X7_copyRow 5 5 jsquare qsquare) fun g_5 => (Option.bind (f_X7_copyRow 5 5 junder qunder) fun g_7 => (some (jgone, jmet, jstill, jdone, g_1, g_3, g_5, g_7))))))

def rm_X1_copyFrom : Room := { frames := 1, cells := 0, slots := 0, locals := 22 }

theorem pd_X1_copyFrom : yX1_copyFrom.cls ≠ "java/lang/invoke/MethodHandle" ∧ yX1_copyFrom.cls ≠ "java/lang/invoke/VarHandle" ∧ (parseMethodDescriptor yX1_copyFrom.desc).map (fun d => d.parameters.length) = some 1 := by decide +kernel

set_option maxHeartbeats 4000000 in
set_option maxRecDepth 100000 in
theorem c_X1_copyFrom (l : Launch) (D : va_G) (cI cC cM : ClassId) (aq aqh aqw aqs aqu aj ajh ajw ajs aju ap ap2 : Nat) (qgone : Int32) (qmet : Int32) (qstill : Int32) (qdone : Int32) (qhour : (Nat → Int32)) (qworn : (Nat → Int32)) (qsquare : (Nat → Int32)) (qunder : (Nat → Int32)) (jgone : Int32) (jmet : Int32) (jstill : Int32) (jdone : Int32) (jhour : (Nat → Int32)) (jworn : (Nat → Int32)) (jsquare : (Nat → Int32)) (junder : (Nat → Int32)) (qgone' : Int32) (qmet' : Int32) (qstill' : Int32) (qdone' : Int32) (qhour' : (Nat → Int32)) (qworn' : (Nat → Int32)) (qsquare' : (Nat → Int32)) (qunder' : (Nat → Int32)) (hF : f_X1_copyFrom qhour qworn qsquare qunder jgone jmet jstill jdone jhour jworn jsquare junder = some (qgone', qmet', qstill', qdone', qhour', qworn', qsquare', qunder')) : CV l D cI cC cM yX1_copyFrom wsX1_copyFrom rm_X1_copyFrom [.ref aq, .ref aj] [(aq, .inr (1, [.ref ap, .int qgone, .int qmet, .int qstill, .int qdone, .ref aqh, .ref aqw, .ref aqs, .ref aqu])), (aqh, .inl (cI, 6, .inl qhour)), (aqw, .inl (cI, 6, .inl qworn)), (aqs, .inl (cI, 5, .inl qsquare)), (aqu, .inl (cI, 5, .inl qunder)), (aj, .inr (1, [.ref ap2, .int jgone, .int jmet, .int jstill, .int jdone, .ref ajh, .ref ajw, .ref ajs, .ref aju])), (ajh, .inl (cI, 6, .inl jhour)), (ajw, .inl (cI, 6, .inl jworn)), (ajs, .inl (cI, 5, .inl jsquare)), (aju, .inl (cI, 5, .inl junder))] [(aq, .inr (1, [.ref ap, .int qgone', .int qmet', .int qstill', .int qdone', .ref aqh, .ref aqw, .ref aqs, .ref aqu])), (aqh, .inl (cI, 6, .inl qhour')), (aqw, .inl (cI, 6, .inl qworn')), (aqs, .inl (cI, 5, .inl qsquare')), (aqu, .inl (cI, 5, .inl qunder')), (aj, .inr (1, [.ref ap2, .int jgone, .int jmet, .int jstill, .int jdone, .ref ajh, .ref ajw, .ref ajs, .ref aju])), (ajh, .inl (cI, 6, .inl jhour)), (ajw, .inl (cI, 6, .inl jworn)), (ajs, .inl (cI, 5, .inl jsquare)), (aju, .inl (cI, 5, .inl junder))] := by
  refine CV.of (cc := cX1_copyFrom) (nL := 2) (ret := none) (by decide) rfl (Nat.le_of_ble_eq_true rfl) ?_
  intro p e s m args below meth c A hC hP hD hS ls hl
  obtain ⟨hx, hb, hml, hown, hts, hr, hlk, hG, hA⟩ := id hC
  have hown : s.vm.findClass RX1 = some m.cls := hown
  have hK := hG.1
  have hl : lv_has ls 2 [(0, .ref aq), (1, .ref aj)] := hl
  have k_f28 := hts (.fieldLink RX1 28 "ParasolHours$Moment" "gone" "I") (List.mem_of_getElem? (i := 1) rfl)
  have k_f32 := hts (.fieldLink RX1 32 "ParasolHours$Moment" "met" "I") (List.mem_of_getElem? (i := 2) rfl)
  have k_f35 := hts (.fieldLink RX1 35 "ParasolHours$Moment" "stillBits" "I") (List.mem_of_getElem? (i := 3) rfl)
  have k_f38 := hts (.fieldLink RX1 38 "ParasolHours$Moment" "doneBits" "I") (List.mem_of_getElem? (i := 4) rfl)
  have k_f9 := hts (.fieldLink RX1 9 "ParasolHours$Moment" "hour" "[I") (List.mem_of_getElem? (i := 5) rfl)
  have k_st_copyRow := hts (.static yX7_copyRow) (List.mem_of_getElem? (i := 9) rfl)
  have k_in_X7 := hts (.initialized RX7) (List.mem_of_getElem? (i := 10) rfl)
  have k_f15 := hts (.fieldLink RX1 15 "ParasolHours$Moment" "worn" "[I") (List.mem_of_getElem? (i := 6) rfl)
  have k_f18 := hts (.fieldLink RX1 18 "ParasolHours$Moment" "square" "[I") (List.mem_of_getElem? (i := 7) rfl)
  have k_f21 := hts (.fieldLink RX1 21 "ParasolHours$Moment" "under" "[I") (List.mem_of_getElem? (i := 8) rfl)
  have iX1 : ∀ w ∈ wsX10, w ∈ wsX1_copyFrom := by decide +kernel
  obtain ⟨Q, hQ⟩ : ∃ Q, Q = MQ below (QV D [(aq, .inr (1, [.ref ap, .int qgone', .int qmet', .int qstill', .int qdone', .ref aqh, .ref aqw, .ref aqs, .ref aqu])), (aqh, .inl (cI, 6, .inl qhour')), (aqw, .inl (cI, 6, .inl qworn')), (aqs, .inl (cI, 5, .inl qsquare')), (aqu, .inl (cI, 5, .inl qunder')), (aj, .inr (1, [.ref ap2, .int jgone, .int jmet, .int jstill, .int jdone, .ref ajh, .ref ajw, .ref ajs, .ref aju])), (ajh, .inl (cI, 6, .inl jhour)), (ajw, .inl (cI, 6, .inl jworn)), (ajs, .inl (cI, 5, .inl jsquare)), (aju, .inl (cI, 5, .inl junder))] A) args s 0 0 A := ⟨_, rfl⟩
  rw [← hQ]
  unfold f_X1_copyFrom at hF
  refine lv_aload_n hx hb dX1_copyFrom_0 rfl (lv_at hl 0 rfl) ?_
  refine lv_aload_n hx hb dX1_copyFrom_1 rfl (lv_at hl 1 rfl) ?_
  refine va_get (D := D) (ci := 1) (v := .int jgone) (C := RX1) (T := TX1) (N := 9) hx hb hts iX1 hown hK hP 5 rfl rfl 1 (by decide) k_f28 (fun _ h9 => h9) rfl dX1_copyFrom_2 ?_
  refine va_put (D := D) (ci := 1) (v := .int jgone) (ty := .int) (C := RX1) (T := TX1) (N := 9) hx hb hts iX1 tyX1 tyX1_ok nmX1 hown hK hP hD hS 0 rfl rfl 1 (by decide) k_f28 (fun _ h9 => h9) rfl (by decide +kernel) rfl rfl (Nat.le_of_ble_eq_true rfl) dX1_copyFrom_5 (fun H locs hP hD hS => ?_)
  have hP : va_P D vwCl [(aq, .inr (1, [.ref ap, .int jgone, .int qmet, .int qstill, .int qdone, .ref aqh, .ref aqw, .ref aqs, .ref aqu])), (aqh, .inl (cI, 6, .inl qhour)), (aqw, .inl (cI, 6, .inl qworn)), (aqs, .inl (cI, 5, .inl qsquare)), (aqu, .inl (cI, 5, .inl qunder)), (aj, .inr (1, [.ref ap2, .int jgone, .int jmet, .int jstill, .int jdone, .ref ajh, .ref ajw, .ref ajs, .ref aju])), (ajh, .inl (cI, 6, .inl jhour)), (ajw, .inl (cI, 6, .inl jworn)), (ajs, .inl (cI, 5, .inl jsquare)), (aju, .inl (cI, 5, .inl junder))] H := hP
  have hD : va_D A [(aq, .inr (1, [.ref ap, .int jgone, .int qmet, .int qstill, .int qdone, .ref aqh, .ref aqw, .ref aqs, .ref aqu])), (aqh, .inl (cI, 6, .inl qhour)), (aqw, .inl (cI, 6, .inl qworn)), (aqs, .inl (cI, 5, .inl qsquare)), (aqu, .inl (cI, 5, .inl qunder)), (aj, .inr (1, [.ref ap2, .int jgone, .int jmet, .int jstill, .int jdone, .ref ajh, .ref ajw, .ref ajs, .ref aju])), (ajh, .inl (cI, 6, .inl jhour)), (ajw, .inl (cI, 6, .inl jworn)), (ajs, .inl (cI, 5, .inl jsquare)), (aju, .inl (cI, 5, .inl junder))] := hD
  refine lv_aload_n hx hb dX1_copyFrom_8 rfl (lv_at hl 0 rfl) ?_
  refine lv_aload_n hx hb dX1_copyFrom_9 rfl (lv_at hl 1 rfl) ?_
  refine va_get (D := D) (ci := 1) (v := .int jmet) (C := RX1) (T := TX1) (N := 9) hx hb hts iX1 hown hK hP 5 rfl rfl 2 (by decide) k_f32 (fun _ h9 => h9) rfl dX1_copyFrom_10 ?_
  refine va_put (D := D) (ci := 1) (v := .int jmet) (ty := .int) (C := RX1) (T := TX1) (N := 9) hx hb hts iX1 tyX1 tyX1_ok nmX1 hown hK hP hD hS 0 rfl rfl 2 (by decide) k_f32 (fun _ h9 => h9) rfl (by decide +kernel) rfl rfl (Nat.le_of_ble_eq_true rfl) dX1_copyFrom_13 (fun H locs hP hD hS => ?_)
  have hP : va_P D vwCl [(aq, .inr (1, [.ref ap, .int jgone, .int jmet, .int qstill, .int qdone, .ref aqh, .ref aqw, .ref aqs, .ref aqu])), (aqh, .inl (cI, 6, .inl qhour)), (aqw, .inl (cI, 6, .inl qworn)), (aqs, .inl (cI, 5, .inl qsquare)), (aqu, .inl (cI, 5, .inl qunder)), (aj, .inr (1, [.ref ap2, .int jgone, .int jmet, .int jstill, .int jdone, .ref ajh, .ref ajw, .ref ajs, .ref aju])), (ajh, .inl (cI, 6, .inl jhour)), (ajw, .inl (cI, 6, .inl jworn)), (ajs, .inl (cI, 5, .inl jsquare)), (aju, .inl (cI, 5, .inl junder))] H := hP
  have hD : va_D A [(aq, .inr (1, [.ref ap, .int jgone, .int jmet, .int qstill, .int qdone, .ref aqh, .ref aqw, .ref aqs, .ref aqu])), (aqh, .inl (cI, 6, .inl qhour)), (aqw, .inl (cI, 6, .inl qworn)), (aqs, .inl (cI, 5, .inl qsquare)), (aqu, .inl (cI, 5, .inl qunder)), (aj, .inr (1, [.ref ap2, .int jgone, .int jmet, .int jstill, .int jdone, .ref ajh, .ref ajw, .ref ajs, .ref aju])), (ajh, .inl (cI, 6, .inl jhour)), (ajw, .inl (cI, 6, .inl jworn)), (ajs, .inl (cI, 5, .inl jsquare)), (aju, .inl (cI, 5, .inl junder))] := hD
  refine lv_aload_n hx hb dX1_copyFrom_16 rfl (lv_at hl 0 rfl) ?_
  refine lv_aload_n hx hb dX1_copyFrom_17 rfl (lv_at hl 1 rfl) ?_
  refine va_get (D := D) (ci := 1) (v := .int jstill) (C := RX1) (T := TX1) (N := 9) hx hb hts iX1 hown hK hP 5 rfl rfl 3 (by decide) k_f35 (fun _ h9 => h9) rfl dX1_copyFrom_18 ?_
  refine va_put (D := D) (ci := 1) (v := .int jstill) (ty := .int) (C := RX1) (T := TX1) (N := 9) hx hb hts iX1 tyX1 tyX1_ok nmX1 hown hK hP hD hS 0 rfl rfl 3 (by decide) k_f35 (fun _ h9 => h9) rfl (by decide +kernel) rfl rfl (Nat.le_of_ble_eq_true rfl) dX1_copyFrom_21 (fun H locs hP hD hS => ?_)
  have hP : va_P D vwCl [(aq, .inr (1, [.ref ap, .int jgone, .int jmet, .int jstill, .int qdone, .ref aqh, .ref aqw, .ref aqs, .ref aqu])), (aqh, .inl (cI, 6, .inl qhour)), (aqw, .inl (cI, 6, .inl qworn)), (aqs, .inl (cI, 5, .inl qsquare)), (aqu, .inl (cI, 5, .inl qunder)), (aj, .inr (1, [.ref ap2, .int jgone, .int jmet, .int jstill, .int jdone, .ref ajh, .ref ajw, .ref ajs, .ref aju])), (ajh, .inl (cI, 6, .inl jhour)), (ajw, .inl (cI, 6, .inl jworn)), (ajs, .inl (cI, 5, .inl jsquare)), (aju, .inl (cI, 5, .inl junder))] H := hP
  have hD : va_D A [(aq, .inr (1, [.ref ap, .int jgone, .int jmet, .int jstill, .int qdone, .ref aqh, .ref aqw, .ref aqs, .ref aqu])), (aqh, .inl (cI, 6, .inl qhour)), (aqw, .inl (cI, 6, .inl qworn)), (aqs, .inl (cI, 5, .inl qsquare)), (aqu, .inl (cI, 5, .inl qunder)), (aj, .inr (1, [.ref ap2, .int jgone, .int jmet, .int jstill, .int jdone, .ref ajh, .ref ajw, .ref ajs, .ref aju])), (ajh, .inl (cI, 6, .inl jhour)), (ajw, .inl (cI, 6, .inl jworn)), (ajs, .inl (cI, 5, .inl jsquare)), (aju, .inl (cI, 5, .inl junder))] := hD
  refine lv_aload_n hx hb dX1_copyFrom_24 rfl (lv_at hl 0 rfl) ?_
  refine lv_aload_n hx hb dX1_copyFrom_25 rfl (lv_at hl 1 rfl) ?_
  refine va_get (D := D) (ci := 1) (v := .int jdone) (C := RX1) (T := TX1) (N := 9) hx hb hts iX1 hown hK hP 5 rfl rfl 4 (by decide) k_f38 (fun _ h9 => h9) rfl dX1_copyFrom_26 ?_
  refine va_put (D := D) (ci := 1) (v := .int jdone) (ty := .int) (C := RX1) (T := TX1) (N := 9) hx hb hts iX1 tyX1 tyX1_ok nmX1 hown hK hP hD hS 0 rfl rfl 4 (by decide) k_f38 (fun _ h9 => h9) rfl (by decide +kernel) rfl rfl (Nat.le_of_ble_eq_true rfl) dX1_copyFrom_29 (fun H locs hP hD hS => ?_)
  have hP : va_P D vwCl [(aq, .inr (1, [.ref ap, .int jgone, .int jmet, .int jstill, .int jdone, .ref aqh, .ref aqw, .ref aqs, .ref aqu])), (aqh, .inl (cI, 6, .inl qhour)), (aqw, .inl (cI, 6, .inl qworn)), (aqs, .inl (cI, 5, .inl qsquare)), (aqu, .inl (cI, 5, .inl qunder)), (aj, .inr (1, [.ref ap2, .int jgone, .int jmet, .int jstill, .int jdone, .ref ajh, .ref ajw, .ref ajs, .ref aju])), (ajh, .inl (cI, 6, .inl jhour)), (ajw, .inl (cI, 6, .inl jworn)), (ajs, .inl (cI, 5, .inl jsquare)), (aju, .inl (cI, 5, .inl junder))] H := hP
  have hD : va_D A [(aq, .inr (1, [.ref ap, .int jgone, .int jmet, .int jstill, .int jdone, .ref aqh, .ref aqw, .ref aqs, .ref aqu])), (aqh, .inl (cI, 6, .inl qhour)), (aqw, .inl (cI, 6, .inl qworn)), (aqs, .inl (cI, 5, .inl qsquare)), (aqu, .inl (cI, 5, .inl qunder)), (aj, .inr (1, [.ref ap2, .int jgone, .int jmet, .int jstill, .int jdone, .ref ajh, .ref ajw, .ref ajs, .ref aju])), (ajh, .inl (cI, 6, .inl jhour)), (ajw, .inl (cI, 6, .inl jworn)), (ajs, .inl (cI, 5, .inl jsquare)), (aju, .inl (cI, 5, .inl junder))] := hD
  refine lv_aload_n hx hb dX1_copyFrom_32 rfl (lv_at hl 1 rfl) ?_
  refine va_get (D := D) (ci := 1) (v := .ref ajh) (C := RX1) (T := TX1) (N := 9) hx hb hts iX1 hown hK hP 5 rfl rfl 5 (by decide) k_f9 (fun _ h9 => h9) rfl dX1_copyFrom_33 ?_
  refine lv_aload_n hx hb dX1_copyFrom_36 rfl (lv_at hl 0 rfl) ?_
  refine va_get (D := D) (ci := 1) (v := .ref aqh) (C := RX1) (T := TX1) (N := 9) hx hb hts iX1 hown hK hP 0 rfl rfl 5 (by decide) k_f9 (fun _ h9 => h9) rfl dX1_copyFrom_37 ?_
  obtain ⟨g_1, hb2, hF⟩ := op_bind hF
  refine xNv (As := [.ref ajh, .ref aqh]) (rest := []) hC hP hD hS [6, 1] (c_X7_copyRow l D cI cC cM ajh aqh 6 6 jhour qhour g_1 hb2) ⟨va_cnB 2 hts gX1_copyFrom_X7_copyRow_n41 rfl rfl rfl (hG.nw 10 rfl) k_in_X7 pd_X7_copyRow ⟨Nat.le_of_ble_eq_true rfl, Nat.le_of_ble_eq_true rfl⟩, k_st_copyRow, trivial⟩ rfl rfl rfl rfl hl.1 rfl (Nat.le_of_ble_eq_true rfl) dX1_copyFrom_40 ⟨Nat.zero_le _, Nat.zero_le _⟩ (fun H locs hP hD hS => ?_)
  have hP : va_P D vwCl [(aq, .inr (1, [.ref ap, .int jgone, .int jmet, .int jstill, .int jdone, .ref aqh, .ref aqw, .ref aqs, .ref aqu])), (aqh, .inl (cI, 6, .inl g_1)), (aqw, .inl (cI, 6, .inl qworn)), (aqs, .inl (cI, 5, .inl qsquare)), (aqu, .inl (cI, 5, .inl qunder)), (aj, .inr (1, [.ref ap2, .int jgone, .int jmet, .int jstill, .int jdone, .ref ajh, .ref ajw, .ref ajs, .ref aju])), (ajh, .inl (cI, 6, .inl jhour)), (ajw, .inl (cI, 6, .inl jworn)), (ajs, .inl (cI, 5, .inl jsquare)), (aju, .inl (cI, 5, .inl junder))] H := hP
  have hD : va_D A [(aq, .inr (1, [.ref ap, .int jgone, .int jmet, .int jstill, .int jdone, .ref aqh, .ref aqw, .ref aqs, .ref aqu])), (aqh, .inl (cI, 6, .inl g_1)), (aqw, .inl (cI, 6, .inl qworn)), (aqs, .inl (cI, 5, .inl qsquare)), (aqu, .inl (cI, 5, .inl qunder)), (aj, .inr (1, [.ref ap2, .int jgone, .int jmet, .int jstill, .int jdone, .ref ajh, .ref ajw, .ref ajs, .ref aju])), (ajh, .inl (cI, 6, .inl jhour)), (ajw, .inl (cI, 6, .inl jworn)), (ajs, .inl (cI, 5, .inl jsquare)), (aju, .inl (cI, 5, .inl junder))] := hD
  refine lv_aload_n hx hb dX1_copyFrom_43 rfl (lv_at hl 1 rfl) ?_
  refine va_get (D := D) (ci := 1) (v := .ref ajw) (C := RX1) (T := TX1) (N := 9) hx hb hts iX1 hown hK hP 5 rfl rfl 6 (by decide) k_f15 (fun _ h9 => h9) rfl dX1_copyFrom_44 ?_
  refine lv_aload_n hx hb dX1_copyFrom_47 rfl (lv_at hl 0 rfl) ?_
  refine va_get (D := D) (ci := 1) (v := .ref aqw) (C := RX1) (T := TX1) (N := 9) hx hb hts iX1 hown hK hP 0 rfl rfl 6 (by decide) k_f15 (fun _ h9 => h9) rfl dX1_copyFrom_48 ?_
  obtain ⟨g_3, hb4, hF⟩ := op_bind hF
  refine xNv (As := [.ref ajw, .ref aqw]) (rest := []) hC hP hD hS [7, 2] (c_X7_copyRow l D cI cC cM ajw aqw 6 6 jworn qworn g_3 hb4) ⟨va_cnB 2 hts gX1_copyFrom_X7_copyRow_n41 rfl rfl rfl (hG.nw 10 rfl) k_in_X7 pd_X7_copyRow ⟨Nat.le_of_ble_eq_true rfl, Nat.le_of_ble_eq_true rfl⟩, k_st_copyRow, trivial⟩ rfl rfl rfl rfl hl.1 rfl (Nat.le_of_ble_eq_true rfl) dX1_copyFrom_51 ⟨Nat.zero_le _, Nat.zero_le _⟩ (fun H locs hP hD hS => ?_)
  have hP : va_P D vwCl [(aq, .inr (1, [.ref ap, .int jgone, .int jmet, .int jstill, .int jdone, .ref aqh, .ref aqw, .ref aqs, .ref aqu])), (aqh, .inl (cI, 6, .inl g_1)), (aqw, .inl (cI, 6, .inl g_3)), (aqs, .inl (cI, 5, .inl qsquare)), (aqu, .inl (cI, 5, .inl qunder)), (aj, .inr (1, [.ref ap2, .int jgone, .int jmet, .int jstill, .int jdone, .ref ajh, .ref ajw, .ref ajs, .ref aju])), (ajh, .inl (cI, 6, .inl jhour)), (ajw, .inl (cI, 6, .inl jworn)), (ajs, .inl (cI, 5, .inl jsquare)), (aju, .inl (cI, 5, .inl junder))] H := hP
  have hD : va_D A [(aq, .inr (1, [.ref ap, .int jgone, .int jmet, .int jstill, .int jdone, .ref aqh, .ref aqw, .ref aqs, .ref aqu])), (aqh, .inl (cI, 6, .inl g_1)), (aqw, .inl (cI, 6, .inl g_3)), (aqs, .inl (cI, 5, .inl qsquare)), (aqu, .inl (cI, 5, .inl qunder)), (aj, .inr (1, [.ref ap2, .int jgone, .int jmet, .int jstill, .int jdone, .ref ajh, .ref ajw, .ref ajs, .ref aju])), (ajh, .inl (cI, 6, .inl jhour)), (ajw, .inl (cI, 6, .inl jworn)), (ajs, .inl (cI, 5, .inl jsquare)), (aju, .inl (cI, 5, .inl junder))] := hD
  refine lv_aload_n hx hb dX1_copyFrom_54 rfl (lv_at hl 1 rfl) ?_
  refine va_get (D := D) (ci := 1) (v := .ref ajs) (C := RX1) (T := TX1) (N := 9) hx hb hts iX1 hown hK hP 5 rfl rfl 7 (by decide) k_f18 (fun _ h9 => h9) rfl dX1_copyFrom_55 ?_
  refine lv_aload_n hx hb dX1_copyFrom_58 rfl (lv_at hl 0 rfl) ?_
  refine va_get (D := D) (ci := 1) (v := .ref aqs) (C := RX1) (T := TX1) (N := 9) hx hb hts iX1 hown hK hP 0 rfl rfl 7 (by decide) k_f18 (fun _ h9 => h9) rfl dX1_copyFrom_59 ?_
  obtain ⟨g_5, hb6, hF⟩ := op_bind hF
  refine xNv (As := [.ref ajs, .ref aqs]) (rest := []) hC hP hD hS [8, 3] (c_X7_copyRow l D cI cC cM ajs aqs 5 5 jsquare qsquare g_5 hb6) ⟨va_cnB 2 hts gX1_copyFrom_X7_copyRow_n41 rfl rfl rfl (hG.nw 10 rfl) k_in_X7 pd_X7_copyRow ⟨Nat.le_of_ble_eq_true rfl, Nat.le_of_ble_eq_true rfl⟩, k_st_copyRow, trivial⟩ rfl rfl rfl rfl hl.1 rfl (Nat.le_of_ble_eq_true rfl) dX1_copyFrom_62 ⟨Nat.zero_le _, Nat.zero_le _⟩ (fun H locs hP hD hS => ?_)
  have hP : va_P D vwCl [(aq, .inr (1, [.ref ap, .int jgone, .int jmet, .int jstill, .int jdone, .ref aqh, .ref aqw, .ref aqs, .ref aqu])), (aqh, .inl (cI, 6, .inl g_1)), (aqw, .inl (cI, 6, .inl g_3)), (aqs, .inl (cI, 5, .inl g_5)), (aqu, .inl (cI, 5, .inl qunder)), (aj, .inr (1, [.ref ap2, .int jgone, .int jmet, .int jstill, .int jdone, .ref ajh, .ref ajw, .ref ajs, .ref aju])), (ajh, .inl (cI, 6, .inl jhour)), (ajw, .inl (cI, 6, .inl jworn)), (ajs, .inl (cI, 5, .inl jsquare)), (aju, .inl (cI, 5, .inl junder))] H := hP
  have hD : va_D A [(aq, .inr (1, [.ref ap, .int jgone, .int jmet, .int jstill, .int jdone, .ref aqh, .ref aqw, .ref aqs, .ref aqu])), (aqh, .inl (cI, 6, .inl g_1)), (aqw, .inl (cI, 6, .inl g_3)), (aqs, .inl (cI, 5, .inl g_5)), (aqu, .inl (cI, 5, .inl qunder)), (aj, .inr (1, [.ref ap2, .int jgone, .int jmet, .int jstill, .int jdone, .ref ajh, .ref ajw, .ref ajs, .ref aju])), (ajh, .inl (cI, 6, .inl jhour)), (ajw, .inl (cI, 6, .inl jworn)), (ajs, .inl (cI, 5, .inl jsquare)), (aju, .inl (cI, 5, .inl junder))] := hD
  refine lv_aload_n hx hb dX1_copyFrom_65 rfl (lv_at hl 1 rfl) ?_
  refine va_get (D := D) (ci := 1) (v := .ref aju) (C := RX1) (T := TX1) (N := 9) hx hb hts iX1 hown hK hP 5 rfl rfl 8 (by decide) k_f21 (fun _ h9 => h9) rfl dX1_copyFrom_66 ?_
  refine lv_aload_n hx hb dX1_copyFrom_69 rfl (lv_at hl 0 rfl) ?_
  refine va_get (D := D) (ci := 1) (v := .ref aqu) (C := RX1) (T := TX1) (N := 9) hx hb hts iX1 hown hK hP 0 rfl rfl 8 (by decide) k_f21 (fun _ h9 => h9) rfl dX1_copyFrom_70 ?_
  obtain ⟨g_7, hb8, hF⟩ := op_bind hF
  refine xNv (As := [.ref aju, .ref aqu]) (rest := []) hC hP hD hS [9, 4] (c_X7_copyRow l D cI cC cM aju aqu 5 5 junder qunder g_7 hb8) ⟨va_cnB 2 hts gX1_copyFrom_X7_copyRow_n41 rfl rfl rfl (hG.nw 10 rfl) k_in_X7 pd_X7_copyRow ⟨Nat.le_of_ble_eq_true rfl, Nat.le_of_ble_eq_true rfl⟩, k_st_copyRow, trivial⟩ rfl rfl rfl rfl hl.1 rfl (Nat.le_of_ble_eq_true rfl) dX1_copyFrom_73 ⟨Nat.zero_le _, Nat.zero_le _⟩ (fun H locs hP hD hS => ?_)
  have hP : va_P D vwCl [(aq, .inr (1, [.ref ap, .int jgone, .int jmet, .int jstill, .int jdone, .ref aqh, .ref aqw, .ref aqs, .ref aqu])), (aqh, .inl (cI, 6, .inl g_1)), (aqw, .inl (cI, 6, .inl g_3)), (aqs, .inl (cI, 5, .inl g_5)), (aqu, .inl (cI, 5, .inl g_7)), (aj, .inr (1, [.ref ap2, .int jgone, .int jmet, .int jstill, .int jdone, .ref ajh, .ref ajw, .ref ajs, .ref aju])), (ajh, .inl (cI, 6, .inl jhour)), (ajw, .inl (cI, 6, .inl jworn)), (ajs, .inl (cI, 5, .inl jsquare)), (aju, .inl (cI, 5, .inl junder))] H := hP
  have hD : va_D A [(aq, .inr (1, [.ref ap, .int jgone, .int jmet, .int jstill, .int jdone, .ref aqh, .ref aqw, .ref aqs, .ref aqu])), (aqh, .inl (cI, 6, .inl g_1)), (aqw, .inl (cI, 6, .inl g_3)), (aqs, .inl (cI, 5, .inl g_5)), (aqu, .inl (cI, 5, .inl g_7)), (aj, .inr (1, [.ref ap2, .int jgone, .int jmet, .int jstill, .int jdone, .ref ajh, .ref ajw, .ref ajs, .ref aju])), (ajh, .inl (cI, 6, .inl jhour)), (ajw, .inl (cI, 6, .inl jworn)), (ajs, .inl (cI, 5, .inl jsquare)), (aju, .inl (cI, 5, .inl junder))] := hD
  cases hF
  rw [hQ]
  exact xrv hC hP hS dX1_copyFrom_76

def f_X1_hourOf (qhour : (Nat → Int32)) (u : Int32) : Option Int32 := (Option.bind (f_X7_at 6 qhour u) fun r1 => (some r1))

def rm_X1_hourOf : Room := { frames := 1, cells := 0, slots := 0, locals := 21 }

theorem pd_X1_hourOf : yX1_hourOf.cls ≠ "java/lang/invoke/MethodHandle" ∧ yX1_hourOf.cls ≠ "java/lang/invoke/VarHandle" ∧ (parseMethodDescriptor yX1_hourOf.desc).map (fun d => d.parameters.length) = some 1 := by decide +kernel

set_option maxHeartbeats 4000000 in
set_option maxRecDepth 100000 in
theorem c_X1_hourOf (l : Launch) (D : va_G) (cI cC cM : ClassId) (aq aqh aqw aqs aqu ap apk apq apr : Nat) (qgone : Int32) (qmet : Int32) (qstill : Int32) (qdone : Int32) (qhour : (Nat → Int32)) (qworn : (Nat → Int32)) (qsquare : (Nat → Int32)) (qunder : (Nat → Int32)) (psq : Int32) (ppa : Int32) (ppe : Int32) (pwo : Int32) (pkind : (Nat → Int32)) (pwsq : (Nat → Int32)) (pwhr : (Nat → Int32)) (u : Int32) (rr : Int32) (hF : f_X1_hourOf qhour u = some rr) : CI l D cI cC cM yX1_hourOf wsX1_hourOf rm_X1_hourOf [.ref aq, .int u] [(aq, .inr (1, [.ref ap, .int qgone, .int qmet, .int qstill, .int qdone, .ref aqh, .ref aqw, .ref aqs, .ref aqu])), (aqh, .inl (cI, 6, .inl qhour)), (aqw, .inl (cI, 6, .inl qworn)), (aqs, .inl (cI, 5, .inl qsquare)), (aqu, .inl (cI, 5, .inl qunder)), (ap, .inr (2, [.int psq, .int ppa, .int ppe, .int pwo, .ref apk, .ref apq, .ref apr])), (apk, .inl (cI, 6, .inl pkind)), (apq, .inl (cI, 6, .inl pwsq)), (apr, .inl (cI, 6, .inl pwhr))] [(aq, .inr (1, [.ref ap, .int qgone, .int qmet, .int qstill, .int qdone, .ref aqh, .ref aqw, .ref aqs, .ref aqu])), (aqh, .inl (cI, 6, .inl qhour)), (aqw, .inl (cI, 6, .inl qworn)), (aqs, .inl (cI, 5, .inl qsquare)), (aqu, .inl (cI, 5, .inl qunder)), (ap, .inr (2, [.int psq, .int ppa, .int ppe, .int pwo, .ref apk, .ref apq, .ref apr])), (apk, .inl (cI, 6, .inl pkind)), (apq, .inl (cI, 6, .inl pwsq)), (apr, .inl (cI, 6, .inl pwhr))] rr := by
  refine CI.of (cc := cX1_hourOf) (nL := 2) (ret := (some .int)) (by decide) rfl (Nat.le_of_ble_eq_true rfl) ?_
  intro p e s m args below meth c A hC hP hD hS ls hl
  obtain ⟨hx, hb, hml, hown, hts, hr, hlk, hG, hA⟩ := id hC
  have hown : s.vm.findClass RX1 = some m.cls := hown
  have hK := hG.1
  have hl : lv_has ls 2 [(0, .ref aq), (1, .int u)] := hl
  have k_f9 := hts (.fieldLink RX1 9 "ParasolHours$Moment" "hour" "[I") (List.mem_of_getElem? (i := 1) rfl)
  have k_st_at := hts (.static yX7_at) (List.mem_of_getElem? (i := 2) rfl)
  have k_in_X7 := hts (.initialized RX7) (List.mem_of_getElem? (i := 3) rfl)
  have iX1 : ∀ w ∈ wsX10, w ∈ wsX1_hourOf := by decide +kernel
  obtain ⟨Q, hQ⟩ : ∃ Q, Q = MQ below (QI D [(aq, .inr (1, [.ref ap, .int qgone, .int qmet, .int qstill, .int qdone, .ref aqh, .ref aqw, .ref aqs, .ref aqu])), (aqh, .inl (cI, 6, .inl qhour)), (aqw, .inl (cI, 6, .inl qworn)), (aqs, .inl (cI, 5, .inl qsquare)), (aqu, .inl (cI, 5, .inl qunder)), (ap, .inr (2, [.int psq, .int ppa, .int ppe, .int pwo, .ref apk, .ref apq, .ref apr])), (apk, .inl (cI, 6, .inl pkind)), (apq, .inl (cI, 6, .inl pwsq)), (apr, .inl (cI, 6, .inl pwhr))] rr A) args s 0 0 A := ⟨_, rfl⟩
  rw [← hQ]
  unfold f_X1_hourOf at hF
  refine lv_aload_n hx hb dX1_hourOf_0 rfl (lv_at hl 0 rfl) ?_
  refine va_get (D := D) (ci := 1) (v := .ref aqh) (C := RX1) (T := TX1) (N := 9) hx hb hts iX1 hown hK hP 0 rfl rfl 5 (by decide) k_f9 (fun _ h9 => h9) rfl dX1_hourOf_1 ?_
  refine lv_iload_n hx hb dX1_hourOf_4 rfl (lv_at hl 1 rfl) ?_
  obtain ⟨r1, hb2, hF⟩ := op_bind hF
  refine xNr (As := [.ref aqh, .int u]) (rest := []) hC hP hD hS [1] (c_X7_at l D cI cC cM aqh 6 qhour u r1 hb2) ⟨va_cnB 2 hts gX1_hourOf_X7_at_n45 rfl rfl rfl (hG.nw 12 rfl) k_in_X7 pd_X7_at ⟨Nat.le_of_ble_eq_true rfl, Nat.le_of_ble_eq_true rfl⟩, k_st_at, trivial⟩ rfl rfl rfl hl.1 rfl (Nat.le_of_ble_eq_true rfl) dX1_hourOf_5 ⟨Nat.zero_le _, Nat.zero_le _⟩ (fun H locs hP hS => ?_)
  cases hF
  rw [hQ]
  exact xri hC hP hS dX1_hourOf_8

def f_X1_wornOf (qworn : (Nat → Int32)) (u : Int32) : Option Int32 := (Option.bind (f_X7_at 6 qworn u) fun r1 => (some r1))

def rm_X1_wornOf : Room := { frames := 1, cells := 0, slots := 0, locals := 21 }

theorem pd_X1_wornOf : yX1_wornOf.cls ≠ "java/lang/invoke/MethodHandle" ∧ yX1_wornOf.cls ≠ "java/lang/invoke/VarHandle" ∧ (parseMethodDescriptor yX1_wornOf.desc).map (fun d => d.parameters.length) = some 1 := by decide +kernel

set_option maxHeartbeats 4000000 in
set_option maxRecDepth 100000 in
theorem c_X1_wornOf (l : Launch) (D : va_G) (cI cC cM : ClassId) (aq aqh aqw aqs aqu ap apk apq apr : Nat) (qgone : Int32) (qmet : Int32) (qstill : Int32) (qdone : Int32) (qhour : (Nat → Int32)) (qworn : (Nat → Int32)) (qsquare : (Nat → Int32)) (qunder : (Nat → Int32)) (psq : Int32) (ppa : Int32) (ppe : Int32) (pwo : Int32) (pkind : (Nat → Int32)) (pwsq : (Nat → Int32)) (pwhr : (Nat → Int32)) (u : Int32) (rr : Int32) (hF : f_X1_wornOf qworn u = some rr) : CI l D cI cC cM yX1_wornOf wsX1_wornOf rm_X1_wornOf [.ref aq, .int u] [(aq, .inr (1, [.ref ap, .int qgone, .int qmet, .int qstill, .int qdone, .ref aqh, .ref aqw, .ref aqs, .ref aqu])), (aqh, .inl (cI, 6, .inl qhour)), (aqw, .inl (cI, 6, .inl qworn)), (aqs, .inl (cI, 5, .inl qsquare)), (aqu, .inl (cI, 5, .inl qunder)), (ap, .inr (2, [.int psq, .int ppa, .int ppe, .int pwo, .ref apk, .ref apq, .ref apr])), (apk, .inl (cI, 6, .inl pkind)), (apq, .inl (cI, 6, .inl pwsq)), (apr, .inl (cI, 6, .inl pwhr))] [(aq, .inr (1, [.ref ap, .int qgone, .int qmet, .int qstill, .int qdone, .ref aqh, .ref aqw, .ref aqs, .ref aqu])), (aqh, .inl (cI, 6, .inl qhour)), (aqw, .inl (cI, 6, .inl qworn)), (aqs, .inl (cI, 5, .inl qsquare)), (aqu, .inl (cI, 5, .inl qunder)), (ap, .inr (2, [.int psq, .int ppa, .int ppe, .int pwo, .ref apk, .ref apq, .ref apr])), (apk, .inl (cI, 6, .inl pkind)), (apq, .inl (cI, 6, .inl pwsq)), (apr, .inl (cI, 6, .inl pwhr))] rr := by
  refine CI.of (cc := cX1_wornOf) (nL := 2) (ret := (some .int)) (by decide) rfl (Nat.le_of_ble_eq_true rfl) ?_
  intro p e s m args below meth c A hC hP hD hS ls hl
  obtain ⟨hx, hb, hml, hown, hts, hr, hlk, hG, hA⟩ := id hC
  have hown : s.vm.findClass RX1 = some m.cls := hown
  have hK := hG.1
  have hl : lv_has ls 2 [(0, .ref aq), (1, .int u)] := hl
  have k_f15 := hts (.fieldLink RX1 15 "ParasolHours$Moment" "worn" "[I") (List.mem_of_getElem? (i := 1) rfl)
  have k_st_at := hts (.static yX7_at) (List.mem_of_getElem? (i := 2) rfl)
  have k_in_X7 := hts (.initialized RX7) (List.mem_of_getElem? (i := 3) rfl)
  have iX1 : ∀ w ∈ wsX10, w ∈ wsX1_wornOf := by decide +kernel
  obtain ⟨Q, hQ⟩ : ∃ Q, Q = MQ below (QI D [(aq, .inr (1, [.ref ap, .int qgone, .int qmet, .int qstill, .int qdone, .ref aqh, .ref aqw, .ref aqs, .ref aqu])), (aqh, .inl (cI, 6, .inl qhour)), (aqw, .inl (cI, 6, .inl qworn)), (aqs, .inl (cI, 5, .inl qsquare)), (aqu, .inl (cI, 5, .inl qunder)), (ap, .inr (2, [.int psq, .int ppa, .int ppe, .int pwo, .ref apk, .ref apq, .ref apr])), (apk, .inl (cI, 6, .inl pkind)), (apq, .inl (cI, 6, .inl pwsq)), (apr, .inl (cI, 6, .inl pwhr))] rr A) args s 0 0 A := ⟨_, rfl⟩
  rw [← hQ]
  unfold f_X1_wornOf at hF
  refine lv_aload_n hx hb dX1_wornOf_0 rfl (lv_at hl 0 rfl) ?_
  refine va_get (D := D) (ci := 1) (v := .ref aqw) (C := RX1) (T := TX1) (N := 9) hx hb hts iX1 hown hK hP 0 rfl rfl 6 (by decide) k_f15 (fun _ h9 => h9) rfl dX1_wornOf_1 ?_
  refine lv_iload_n hx hb dX1_wornOf_4 rfl (lv_at hl 1 rfl) ?_
  obtain ⟨r1, hb2, hF⟩ := op_bind hF
  refine xNr (As := [.ref aqw, .int u]) (rest := []) hC hP hD hS [2] (c_X7_at l D cI cC cM aqw 6 qworn u r1 hb2) ⟨va_cnB 2 hts gX1_wornOf_X7_at_n45 rfl rfl rfl (hG.nw 12 rfl) k_in_X7 pd_X7_at ⟨Nat.le_of_ble_eq_true rfl, Nat.le_of_ble_eq_true rfl⟩, k_st_at, trivial⟩ rfl rfl rfl hl.1 rfl (Nat.le_of_ble_eq_true rfl) dX1_wornOf_5 ⟨Nat.zero_le _, Nat.zero_le _⟩ (fun H locs hP hS => ?_)
  cases hF
  rw [hQ]
  exact xri hC hP hS dX1_wornOf_8

def f_X1_squareOf (qsquare : (Nat → Int32)) (u : Int32) : Option Int32 := (Option.bind (f_X7_at 5 qsquare u) fun r1 => (some r1))

def rm_X1_squareOf : Room := { frames := 1, cells := 0, slots := 0, locals := 21 }

theorem pd_X1_squareOf : yX1_squareOf.cls ≠ "java/lang/invoke/MethodHandle" ∧ yX1_squareOf.cls ≠ "java/lang/invoke/VarHandle" ∧ (parseMethodDescriptor yX1_squareOf.desc).map (fun d => d.parameters.length) = some 1 := by decide +kernel

set_option maxHeartbeats 4000000 in
set_option maxRecDepth 100000 in
theorem c_X1_squareOf (l : Launch) (D : va_G) (cI cC cM : ClassId) (aq aqh aqw aqs aqu ap apk apq apr : Nat) (qgone : Int32) (qmet : Int32) (qstill : Int32) (qdone : Int32) (qhour : (Nat → Int32)) (qworn : (Nat → Int32)) (qsquare : (Nat → Int32)) (qunder : (Nat → Int32)) (psq : Int32) (ppa : Int32) (ppe : Int32) (pwo : Int32) (pkind : (Nat → Int32)) (pwsq : (Nat → Int32)) (pwhr : (Nat → Int32)) (u : Int32) (rr : Int32) (hF : f_X1_squareOf qsquare u = some rr) : CI l D cI cC cM yX1_squareOf wsX1_squareOf rm_X1_squareOf [.ref aq, .int u] [(aq, .inr (1, [.ref ap, .int qgone, .int qmet, .int qstill, .int qdone, .ref aqh, .ref aqw, .ref aqs, .ref aqu])), (aqh, .inl (cI, 6, .inl qhour)), (aqw, .inl (cI, 6, .inl qworn)), (aqs, .inl (cI, 5, .inl qsquare)), (aqu, .inl (cI, 5, .inl qunder)), (ap, .inr (2, [.int psq, .int ppa, .int ppe, .int pwo, .ref apk, .ref apq, .ref apr])), (apk, .inl (cI, 6, .inl pkind)), (apq, .inl (cI, 6, .inl pwsq)), (apr, .inl (cI, 6, .inl pwhr))] [(aq, .inr (1, [.ref ap, .int qgone, .int qmet, .int qstill, .int qdone, .ref aqh, .ref aqw, .ref aqs, .ref aqu])), (aqh, .inl (cI, 6, .inl qhour)), (aqw, .inl (cI, 6, .inl qworn)), (aqs, .inl (cI, 5, .inl qsquare)), (aqu, .inl (cI, 5, .inl qunder)), (ap, .inr (2, [.int psq, .int ppa, .int ppe, .int pwo, .ref apk, .ref apq, .ref apr])), (apk, .inl (cI, 6, .inl pkind)), (apq, .inl (cI, 6, .inl pwsq)), (apr, .inl (cI, 6, .inl pwhr))] rr := by
  refine CI.of (cc := cX1_squareOf) (nL := 2) (ret := (some .int)) (by decide) rfl (Nat.le_of_ble_eq_true rfl) ?_
  intro p e s m args below meth c A hC hP hD hS ls hl
  obtain ⟨hx, hb, hml, hown, hts, hr, hlk, hG, hA⟩ := id hC
  have hown : s.vm.findClass RX1 = some m.cls := hown
  have hK := hG.1
  have hl : lv_has ls 2 [(0, .ref aq), (1, .int u)] := hl
  have k_f18 := hts (.fieldLink RX1 18 "ParasolHours$Moment" "square" "[I") (List.mem_of_getElem? (i := 1) rfl)
  have k_st_at := hts (.static yX7_at) (List.mem_of_getElem? (i := 2) rfl)
  have k_in_X7 := hts (.initialized RX7) (List.mem_of_getElem? (i := 3) rfl)
  have iX1 : ∀ w ∈ wsX10, w ∈ wsX1_squareOf := by decide +kernel
  obtain ⟨Q, hQ⟩ : ∃ Q, Q = MQ below (QI D [(aq, .inr (1, [.ref ap, .int qgone, .int qmet, .int qstill, .int qdone, .ref aqh, .ref aqw, .ref aqs, .ref aqu])), (aqh, .inl (cI, 6, .inl qhour)), (aqw, .inl (cI, 6, .inl qworn)), (aqs, .inl (cI, 5, .inl qsquare)), (aqu, .inl (cI, 5, .inl qunder)), (ap, .inr (2, [.int psq, .int ppa, .int ppe, .int pwo, .ref apk, .ref apq, .ref apr])), (apk, .inl (cI, 6, .inl pkind)), (apq, .inl (cI, 6, .inl pwsq)), (apr, .inl (cI, 6, .inl pwhr))] rr A) args s 0 0 A := ⟨_, rfl⟩
  rw [← hQ]
  unfold f_X1_squareOf at hF
  refine lv_aload_n hx hb dX1_squareOf_0 rfl (lv_at hl 0 rfl) ?_
  refine va_get (D := D) (ci := 1) (v := .ref aqs) (C := RX1) (T := TX1) (N := 9) hx hb hts iX1 hown hK hP 0 rfl rfl 7 (by decide) k_f18 (fun _ h9 => h9) rfl dX1_squareOf_1 ?_
  refine lv_iload_n hx hb dX1_squareOf_4 rfl (lv_at hl 1 rfl) ?_
  obtain ⟨r1, hb2, hF⟩ := op_bind hF
  refine xNr (As := [.ref aqs, .int u]) (rest := []) hC hP hD hS [3] (c_X7_at l D cI cC cM aqs 5 qsquare u r1 hb2) ⟨va_cnB 2 hts gX1_squareOf_X7_at_n45 rfl rfl rfl (hG.nw 12 rfl) k_in_X7 pd_X7_at ⟨Nat.le_of_ble_eq_true rfl, Nat.le_of_ble_eq_true rfl⟩, k_st_at, trivial⟩ rfl rfl rfl hl.1 rfl (Nat.le_of_ble_eq_true rfl) dX1_squareOf_5 ⟨Nat.zero_le _, Nat.zero_le _⟩ (fun H locs hP hS => ?_)
  cases hF
  rw [hQ]
  exact xri hC hP hS dX1_squareOf_8

def f_X1_parasolOf (qunder : (Nat → Int32)) (u : Int32) : Option Int32 := (Option.bind (f_X7_at 5 qunder u) fun r1 => (some r1))

def rm_X1_parasolOf : Room := { frames := 1, cells := 0, slots := 0, locals := 21 }

theorem pd_X1_parasolOf : yX1_parasolOf.cls ≠ "java/lang/invoke/MethodHandle" ∧ yX1_parasolOf.cls ≠ "java/lang/invoke/VarHandle" ∧ (parseMethodDescriptor yX1_parasolOf.desc).map (fun d => d.parameters.length) = some 1 := by decide +kernel

set_option maxHeartbeats 4000000 in
set_option maxRecDepth 100000 in
theorem c_X1_parasolOf (l : Launch) (D : va_G) (cI cC cM : ClassId) (aq aqh aqw aqs aqu ap apk apq apr : Nat) (qgone : Int32) (qmet : Int32) (qstill : Int32) (qdone : Int32) (qhour : (Nat → Int32)) (qworn : (Nat → Int32)) (qsquare : (Nat → Int32)) (qunder : (Nat → Int32)) (psq : Int32) (ppa : Int32) (ppe : Int32) (pwo : Int32) (pkind : (Nat → Int32)) (pwsq : (Nat → Int32)) (pwhr : (Nat → Int32)) (u : Int32) (rr : Int32) (hF : f_X1_parasolOf qunder u = some rr) : CI l D cI cC cM yX1_parasolOf wsX1_parasolOf rm_X1_parasolOf [.ref aq, .int u] [(aq, .inr (1, [.ref ap, .int qgone, .int qmet, .int qstill, .int qdone, .ref aqh, .ref aqw, .ref aqs, .ref aqu])), (aqh, .inl (cI, 6, .inl qhour)), (aqw, .inl (cI, 6, .inl qworn)), (aqs, .inl (cI, 5, .inl qsquare)), (aqu, .inl (cI, 5, .inl qunder)), (ap, .inr (2, [.int psq, .int ppa, .int ppe, .int pwo, .ref apk, .ref apq, .ref apr])), (apk, .inl (cI, 6, .inl pkind)), (apq, .inl (cI, 6, .inl pwsq)), (apr, .inl (cI, 6, .inl pwhr))] [(aq, .inr (1, [.ref ap, .int qgone, .int qmet, .int qstill, .int qdone, .ref aqh, .ref aqw, .ref aqs, .ref aqu])), (aqh, .inl (cI, 6, .inl qhour)), (aqw, .inl (cI, 6, .inl qworn)), (aqs, .inl (cI, 5, .inl qsquare)), (aqu, .inl (cI, 5, .inl qunder)), (ap, .inr (2, [.int psq, .int ppa, .int ppe, .int pwo, .ref apk, .ref apq, .ref apr])), (apk, .inl (cI, 6, .inl pkind)), (apq, .inl (cI, 6, .inl pwsq)), (apr, .inl (cI, 6, .inl pwhr))] rr := by
  refine CI.of (cc := cX1_parasolOf) (nL := 2) (ret := (some .int)) (by decide) rfl (Nat.le_of_ble_eq_true rfl) ?_
  intro p e s m args below meth c A hC hP hD hS ls hl
  obtain ⟨hx, hb, hml, hown, hts, hr, hlk, hG, hA⟩ := id hC
  have hown : s.vm.findClass RX1 = some m.cls := hown
  have hK := hG.1
  have hl : lv_has ls 2 [(0, .ref aq), (1, .int u)] := hl
  have k_f21 := hts (.fieldLink RX1 21 "ParasolHours$Moment" "under" "[I") (List.mem_of_getElem? (i := 1) rfl)
  have k_st_at := hts (.static yX7_at) (List.mem_of_getElem? (i := 2) rfl)
  have k_in_X7 := hts (.initialized RX7) (List.mem_of_getElem? (i := 3) rfl)
  have iX1 : ∀ w ∈ wsX10, w ∈ wsX1_parasolOf := by decide +kernel
  obtain ⟨Q, hQ⟩ : ∃ Q, Q = MQ below (QI D [(aq, .inr (1, [.ref ap, .int qgone, .int qmet, .int qstill, .int qdone, .ref aqh, .ref aqw, .ref aqs, .ref aqu])), (aqh, .inl (cI, 6, .inl qhour)), (aqw, .inl (cI, 6, .inl qworn)), (aqs, .inl (cI, 5, .inl qsquare)), (aqu, .inl (cI, 5, .inl qunder)), (ap, .inr (2, [.int psq, .int ppa, .int ppe, .int pwo, .ref apk, .ref apq, .ref apr])), (apk, .inl (cI, 6, .inl pkind)), (apq, .inl (cI, 6, .inl pwsq)), (apr, .inl (cI, 6, .inl pwhr))] rr A) args s 0 0 A := ⟨_, rfl⟩
  rw [← hQ]
  unfold f_X1_parasolOf at hF
  refine lv_aload_n hx hb dX1_parasolOf_0 rfl (lv_at hl 0 rfl) ?_
  refine va_get (D := D) (ci := 1) (v := .ref aqu) (C := RX1) (T := TX1) (N := 9) hx hb hts iX1 hown hK hP 0 rfl rfl 8 (by decide) k_f21 (fun _ h9 => h9) rfl dX1_parasolOf_1 ?_
  refine lv_iload_n hx hb dX1_parasolOf_4 rfl (lv_at hl 1 rfl) ?_
  obtain ⟨r1, hb2, hF⟩ := op_bind hF
  refine xNr (As := [.ref aqu, .int u]) (rest := []) hC hP hD hS [4] (c_X7_at l D cI cC cM aqu 5 qunder u r1 hb2) ⟨va_cnB 2 hts gX1_parasolOf_X7_at_n45 rfl rfl rfl (hG.nw 12 rfl) k_in_X7 pd_X7_at ⟨Nat.le_of_ble_eq_true rfl, Nat.le_of_ble_eq_true rfl⟩, k_st_at, trivial⟩ rfl rfl rfl hl.1 rfl (Nat.le_of_ble_eq_true rfl) dX1_parasolOf_5 ⟨Nat.zero_le _, Nat.zero_le _⟩ (fun H locs hP hS => ?_)
  cases hF
  rw [hQ]
  exact xri hC hP hS dX1_parasolOf_8

def f_X1_isStill (qstill : Int32) (u : Int32) : Option Int32 := (Option.bind (f_X7_hasBit qstill u) fun r1 => (if okz r1 = true then (some r1) else none))

def rm_X1_isStill : Room := { frames := 1, cells := 0, slots := 0, locals := 21 }

theorem pd_X1_isStill : yX1_isStill.cls ≠ "java/lang/invoke/MethodHandle" ∧ yX1_isStill.cls ≠ "java/lang/invoke/VarHandle" ∧ (parseMethodDescriptor yX1_isStill.desc).map (fun d => d.parameters.length) = some 1 := by decide +kernel

set_option maxHeartbeats 4000000 in
set_option maxRecDepth 100000 in
theorem c_X1_isStill (l : Launch) (D : va_G) (cI cC cM : ClassId) (aq aqh aqw aqs aqu ap apk apq apr : Nat) (qgone : Int32) (qmet : Int32) (qstill : Int32) (qdone : Int32) (qhour : (Nat → Int32)) (qworn : (Nat → Int32)) (qsquare : (Nat → Int32)) (qunder : (Nat → Int32)) (psq : Int32) (ppa : Int32) (ppe : Int32) (pwo : Int32) (pkind : (Nat → Int32)) (pwsq : (Nat → Int32)) (pwhr : (Nat → Int32)) (u : Int32) (rr : Int32) (hF : f_X1_isStill qstill u = some rr) : CI l D cI cC cM yX1_isStill wsX1_isStill rm_X1_isStill [.ref aq, .int u] [(aq, .inr (1, [.ref ap, .int qgone, .int qmet, .int qstill, .int qdone, .ref aqh, .ref aqw, .ref aqs, .ref aqu])), (aqh, .inl (cI, 6, .inl qhour)), (aqw, .inl (cI, 6, .inl qworn)), (aqs, .inl (cI, 5, .inl qsquare)), (aqu, .inl (cI, 5, .inl qunder)), (ap, .inr (2, [.int psq, .int ppa, .int ppe, .int pwo, .ref apk, .ref apq, .ref apr])), (apk, .inl (cI, 6, .inl pkind)), (apq, .inl (cI, 6, .inl pwsq)), (apr, .inl (cI, 6, .inl pwhr))] [(aq, .inr (1, [.ref ap, .int qgone, .int qmet, .int qstill, .int qdone, .ref aqh, .ref aqw, .ref aqs, .ref aqu])), (aqh, .inl (cI, 6, .inl qhour)), (aqw, .inl (cI, 6, .inl qworn)), (aqs, .inl (cI, 5, .inl qsquare)), (aqu, .inl (cI, 5, .inl qunder)), (ap, .inr (2, [.int psq, .int ppa, .int ppe, .int pwo, .ref apk, .ref apq, .ref apr])), (apk, .inl (cI, 6, .inl pkind)), (apq, .inl (cI, 6, .inl pwsq)), (apr, .inl (cI, 6, .inl pwhr))] rr := by
  refine CI.of (cc := cX1_isStill) (nL := 2) (ret := (some .boolean)) (by decide) rfl (Nat.le_of_ble_eq_true rfl) ?_
  intro p e s m args below meth c A hC hP hD hS ls hl
  obtain ⟨hx, hb, hml, hown, hts, hr, hlk, hG, hA⟩ := id hC
  have hown : s.vm.findClass RX1 = some m.cls := hown
  have hK := hG.1
  have hl : lv_has ls 2 [(0, .ref aq), (1, .int u)] := hl
  have k_f35 := hts (.fieldLink RX1 35 "ParasolHours$Moment" "stillBits" "I") (List.mem_of_getElem? (i := 1) rfl)
  have k_st_hasBit := hts (.static yX7_hasBit) (List.mem_of_getElem? (i := 2) rfl)
  have k_in_X7 := hts (.initialized RX7) (List.mem_of_getElem? (i := 3) rfl)
  have iX1 : ∀ w ∈ wsX10, w ∈ wsX1_isStill := by decide +kernel
  obtain ⟨Q, hQ⟩ : ∃ Q, Q = MQ below (QI D [(aq, .inr (1, [.ref ap, .int qgone, .int qmet, .int qstill, .int qdone, .ref aqh, .ref aqw, .ref aqs, .ref aqu])), (aqh, .inl (cI, 6, .inl qhour)), (aqw, .inl (cI, 6, .inl qworn)), (aqs, .inl (cI, 5, .inl qsquare)), (aqu, .inl (cI, 5, .inl qunder)), (ap, .inr (2, [.int psq, .int ppa, .int ppe, .int pwo, .ref apk, .ref apq, .ref apr])), (apk, .inl (cI, 6, .inl pkind)), (apq, .inl (cI, 6, .inl pwsq)), (apr, .inl (cI, 6, .inl pwhr))] rr A) args s 0 0 A := ⟨_, rfl⟩
  rw [← hQ]
  unfold f_X1_isStill at hF
  refine lv_aload_n hx hb dX1_isStill_0 rfl (lv_at hl 0 rfl) ?_
  refine va_get (D := D) (ci := 1) (v := .int qstill) (C := RX1) (T := TX1) (N := 9) hx hb hts iX1 hown hK hP 0 rfl rfl 3 (by decide) k_f35 (fun _ h9 => h9) rfl dX1_isStill_1 ?_
  refine lv_iload_n hx hb dX1_isStill_4 rfl (lv_at hl 1 rfl) ?_
  obtain ⟨r1, hb2, hF⟩ := op_bind hF
  refine xNr (As := [.int qstill, .int u]) (rest := []) hC hP hD hS [] (c_X7_hasBit l D cI cC cM qstill u r1 hb2) ⟨va_cnB 2 hts gX1_isStill_X7_hasBit_n49 rfl rfl rfl (hG.nw 13 rfl) k_in_X7 pd_X7_hasBit ⟨Nat.le_of_ble_eq_true rfl, Nat.le_of_ble_eq_true rfl⟩, k_st_hasBit, trivial⟩ rfl rfl rfl hl.1 rfl (Nat.le_of_ble_eq_true rfl) dX1_isStill_5 ⟨Nat.zero_le _, Nat.zero_le _⟩ (fun H locs hP hS => ?_)
  obtain ⟨z3, hF⟩ := op_ob hF
  cases hF
  rw [hQ]
  exact xrz hC (okz_n z3) hP hS dX1_isStill_8

def f_X1_isDone (qdone : Int32) (u : Int32) : Option Int32 := (Option.bind (f_X7_hasBit qdone u) fun r1 => (if okz r1 = true then (some r1) else none))

def rm_X1_isDone : Room := { frames := 1, cells := 0, slots := 0, locals := 21 }

theorem pd_X1_isDone : yX1_isDone.cls ≠ "java/lang/invoke/MethodHandle" ∧ yX1_isDone.cls ≠ "java/lang/invoke/VarHandle" ∧ (parseMethodDescriptor yX1_isDone.desc).map (fun d => d.parameters.length) = some 1 := by decide +kernel

set_option maxHeartbeats 4000000 in
set_option maxRecDepth 100000 in
theorem c_X1_isDone (l : Launch) (D : va_G) (cI cC cM : ClassId) (aq aqh aqw aqs aqu ap apk apq apr : Nat) (qgone : Int32) (qmet : Int32) (qstill : Int32) (qdone : Int32) (qhour : (Nat → Int32)) (qworn : (Nat → Int32)) (qsquare : (Nat → Int32)) (qunder : (Nat → Int32)) (psq : Int32) (ppa : Int32) (ppe : Int32) (pwo : Int32) (pkind : (Nat → Int32)) (pwsq : (Nat → Int32)) (pwhr : (Nat → Int32)) (u : Int32) (rr : Int32) (hF : f_X1_isDone qdone u = some rr) : CI l D cI cC cM yX1_isDone wsX1_isDone rm_X1_isDone [.ref aq, .int u] [(aq, .inr (1, [.ref ap, .int qgone, .int qmet, .int qstill, .int qdone, .ref aqh, .ref aqw, .ref aqs, .ref aqu])), (aqh, .inl (cI, 6, .inl qhour)), (aqw, .inl (cI, 6, .inl qworn)), (aqs, .inl (cI, 5, .inl qsquare)), (aqu, .inl (cI, 5, .inl qunder)), (ap, .inr (2, [.int psq, .int ppa, .int ppe, .int pwo, .ref apk, .ref apq, .ref apr])), (apk, .inl (cI, 6, .inl pkind)), (apq, .inl (cI, 6, .inl pwsq)), (apr, .inl (cI, 6, .inl pwhr))] [(aq, .inr (1, [.ref ap, .int qgone, .int qmet, .int qstill, .int qdone, .ref aqh, .ref aqw, .ref aqs, .ref aqu])), (aqh, .inl (cI, 6, .inl qhour)), (aqw, .inl (cI, 6, .inl qworn)), (aqs, .inl (cI, 5, .inl qsquare)), (aqu, .inl (cI, 5, .inl qunder)), (ap, .inr (2, [.int psq, .int ppa, .int ppe, .int pwo, .ref apk, .ref apq, .ref apr])), (apk, .inl (cI, 6, .inl pkind)), (apq, .inl (cI, 6, .inl pwsq)), (apr, .inl (cI, 6, .inl pwhr))] rr := by
  refine CI.of (cc := cX1_isDone) (nL := 2) (ret := (some .boolean)) (by decide) rfl (Nat.le_of_ble_eq_true rfl) ?_
  intro p e s m args below meth c A hC hP hD hS ls hl
  obtain ⟨hx, hb, hml, hown, hts, hr, hlk, hG, hA⟩ := id hC
  have hown : s.vm.findClass RX1 = some m.cls := hown
  have hK := hG.1
  have hl : lv_has ls 2 [(0, .ref aq), (1, .int u)] := hl
  have k_f38 := hts (.fieldLink RX1 38 "ParasolHours$Moment" "doneBits" "I") (List.mem_of_getElem? (i := 1) rfl)
  have k_st_hasBit := hts (.static yX7_hasBit) (List.mem_of_getElem? (i := 2) rfl)
  have k_in_X7 := hts (.initialized RX7) (List.mem_of_getElem? (i := 3) rfl)
  have iX1 : ∀ w ∈ wsX10, w ∈ wsX1_isDone := by decide +kernel
  obtain ⟨Q, hQ⟩ : ∃ Q, Q = MQ below (QI D [(aq, .inr (1, [.ref ap, .int qgone, .int qmet, .int qstill, .int qdone, .ref aqh, .ref aqw, .ref aqs, .ref aqu])), (aqh, .inl (cI, 6, .inl qhour)), (aqw, .inl (cI, 6, .inl qworn)), (aqs, .inl (cI, 5, .inl qsquare)), (aqu, .inl (cI, 5, .inl qunder)), (ap, .inr (2, [.int psq, .int ppa, .int ppe, .int pwo, .ref apk, .ref apq, .ref apr])), (apk, .inl (cI, 6, .inl pkind)), (apq, .inl (cI, 6, .inl pwsq)), (apr, .inl (cI, 6, .inl pwhr))] rr A) args s 0 0 A := ⟨_, rfl⟩
  rw [← hQ]
  unfold f_X1_isDone at hF
  refine lv_aload_n hx hb dX1_isDone_0 rfl (lv_at hl 0 rfl) ?_
  refine va_get (D := D) (ci := 1) (v := .int qdone) (C := RX1) (T := TX1) (N := 9) hx hb hts iX1 hown hK hP 0 rfl rfl 4 (by decide) k_f38 (fun _ h9 => h9) rfl dX1_isDone_1 ?_
  refine lv_iload_n hx hb dX1_isDone_4 rfl (lv_at hl 1 rfl) ?_
  obtain ⟨r1, hb2, hF⟩ := op_bind hF
  refine xNr (As := [.int qdone, .int u]) (rest := []) hC hP hD hS [] (c_X7_hasBit l D cI cC cM qdone u r1 hb2) ⟨va_cnB 2 hts gX1_isDone_X7_hasBit_n49 rfl rfl rfl (hG.nw 13 rfl) k_in_X7 pd_X7_hasBit ⟨Nat.le_of_ble_eq_true rfl, Nat.le_of_ble_eq_true rfl⟩, k_st_hasBit, trivial⟩ rfl rfl rfl hl.1 rfl (Nat.le_of_ble_eq_true rfl) dX1_isDone_5 ⟨Nat.zero_le _, Nat.zero_le _⟩ (fun H locs hP hS => ?_)
  obtain ⟨z3, hF⟩ := op_ob hF
  cases hF
  rw [hQ]
  exact xrz hC (okz_n z3) hP hS dX1_isDone_8

def f_X1_bearersOf_L4 (ppe : Int32) (qunder : (Nat → Int32)) (u : Int32) (k4 : Int32 → Int32 → Option Int32) : Nat → Int32 → Int32 → Option Int32
  | 0, _, _ => none
  | nf4 + 1, v1, v2 => (if ppe ≤ v2 then (k4 v1 v2) else (Option.bind (f_X1_parasolOf qunder v2) fun r4 => (if r4 = u then (f_X1_bearersOf_L4 ppe qunder u k4 nf4 (v1 ||| ((1 : Int32) <<< (v2 &&& 31))) (v2 + (1 : Int32))) else (f_X1_bearersOf_L4 ppe qunder u k4 nf4 v1 (v2 + (1 : Int32))))))
theorem f_X1_bearersOf_L4_0 (ppe : Int32) (qunder : (Nat → Int32)) (u : Int32) (k4 : Int32 → Int32 → Option Int32) (v1 : Int32) (v2 : Int32) : f_X1_bearersOf_L4 ppe qunder u k4 0 v1 v2 = none := rfl
theorem f_X1_bearersOf_L4_s (ppe : Int32) (qunder : (Nat → Int32)) (u : Int32) (k4 : Int32 → Int32 → Option Int32) (nf4 : Nat) (v1 : Int32) (v2 : Int32) : f_X1_bearersOf_L4 ppe qunder u k4 (nf4 + 1) v1 v2 = (if ppe ≤ v2 then (k4 v1 v2) else (Option.bind (f_X1_parasolOf qunder v2) fun r4 => (if r4 = u then (f_X1_bearersOf_L4 ppe qunder u k4 nf4 (v1 ||| ((1 : Int32) <<< (v2 &&& 31))) (v2 + (1 : Int32))) else (f_X1_bearersOf_L4 ppe qunder u k4 nf4 v1 (v2 + (1 : Int32)))))) := rfl

def f_X1_bearersOf (qunder : (Nat → Int32)) (ppe : Int32) (u : Int32) : Option Int32 := (f_X1_bearersOf_L4 ppe qunder u (fun (v1 : Int32) (v2 : Int32) => (some v1)) 20000 (0 : Int32) (0 : Int32))

def rm_X1_bearersOf : Room := { frames := 2, cells := 0, slots := 0, locals := 42 }

theorem pd_X1_bearersOf : yX1_bearersOf.cls ≠ "java/lang/invoke/MethodHandle" ∧ yX1_bearersOf.cls ≠ "java/lang/invoke/VarHandle" ∧ (parseMethodDescriptor yX1_bearersOf.desc).map (fun d => d.parameters.length) = some 1 := by decide +kernel

set_option maxHeartbeats 4000000 in
set_option maxRecDepth 100000 in
theorem c_X1_bearersOf (l : Launch) (D : va_G) (cI cC cM : ClassId) (aq aqh aqw aqs aqu ap apk apq apr : Nat) (qgone : Int32) (qmet : Int32) (qstill : Int32) (qdone : Int32) (qhour : (Nat → Int32)) (qworn : (Nat → Int32)) (qsquare : (Nat → Int32)) (qunder : (Nat → Int32)) (psq : Int32) (ppa : Int32) (ppe : Int32) (pwo : Int32) (pkind : (Nat → Int32)) (pwsq : (Nat → Int32)) (pwhr : (Nat → Int32)) (u : Int32) (rr : Int32) (hF : f_X1_bearersOf qunder ppe u = some rr) : CI l D cI cC cM yX1_bearersOf wsX1_bearersOf rm_X1_bearersOf [.ref aq, .int u] [(aq, .inr (1, [.ref ap, .int qgone, .int qmet, .int qstill, .int qdone, .ref aqh, .ref aqw, .ref aqs, .ref aqu])), (aqh, .inl (cI, 6, .inl qhour)), (aqw, .inl (cI, 6, .inl qworn)), (aqs, .inl (cI, 5, .inl qsquare)), (aqu, .inl (cI, 5, .inl qunder)), (ap, .inr (2, [.int psq, .int ppa, .int ppe, .int pwo, .ref apk, .ref apq, .ref apr])), (apk, .inl (cI, 6, .inl pkind)), (apq, .inl (cI, 6, .inl pwsq)), (apr, .inl (cI, 6, .inl pwhr))] [(aq, .inr (1, [.ref ap, .int qgone, .int qmet, .int qstill, .int qdone, .ref aqh, .ref aqw, .ref aqs, .ref aqu])), (aqh, .inl (cI, 6, .inl qhour)), (aqw, .inl (cI, 6, .inl qworn)), (aqs, .inl (cI, 5, .inl qsquare)), (aqu, .inl (cI, 5, .inl qunder)), (ap, .inr (2, [.int psq, .int ppa, .int ppe, .int pwo, .ref apk, .ref apq, .ref apr])), (apk, .inl (cI, 6, .inl pkind)), (apq, .inl (cI, 6, .inl pwsq)), (apr, .inl (cI, 6, .inl pwhr))] rr := by
  refine CI.of (cc := cX1_bearersOf) (nL := 4) (ret := (some .int)) (by decide) rfl (Nat.le_of_ble_eq_true rfl) ?_
  intro p e s m args below meth c A hC hP hD hS ls hl
  obtain ⟨hx, hb, hml, hown, hts, hr, hlk, hG, hA⟩ := id hC
  have hown : s.vm.findClass RX1 = some m.cls := hown
  have hK := hG.1
  have hl : lv_has ls 4 [(0, .ref aq), (1, .int u)] := hl
  have k_f24 := hts (.fieldLink RX1 24 "ParasolHours$Moment" "plan" "LParasolHours$Plan;") (List.mem_of_getElem? (i := 1) rfl)
  have k_f53 := hts (.fieldLink RX1 53 "ParasolHours$Plan" "persons" "I") (List.mem_of_getElem? (i := 2) rfl)
  have iX1 : ∀ w ∈ wsX10, w ∈ wsX1_bearersOf := by decide +kernel
  have iX2 : ∀ w ∈ wsX20, w ∈ wsX1_bearersOf := by decide +kernel
  obtain ⟨Q, hQ⟩ : ∃ Q, Q = MQ below (QI D [(aq, .inr (1, [.ref ap, .int qgone, .int qmet, .int qstill, .int qdone, .ref aqh, .ref aqw, .ref aqs, .ref aqu])), (aqh, .inl (cI, 6, .inl qhour)), (aqw, .inl (cI, 6, .inl qworn)), (aqs, .inl (cI, 5, .inl qsquare)), (aqu, .inl (cI, 5, .inl qunder)), (ap, .inr (2, [.int psq, .int ppa, .int ppe, .int pwo, .ref apk, .ref apq, .ref apr])), (apk, .inl (cI, 6, .inl pkind)), (apq, .inl (cI, 6, .inl pwsq)), (apr, .inl (cI, 6, .inl pwhr))] rr A) args s 0 0 A := ⟨_, rfl⟩
  rw [← hQ]
  unfold f_X1_bearersOf at hF
  refine lv_iconst (v := (0 : Int32)) hx hb dX1_bearersOf_0 (by decide) ?_
  refine lv_istore_n (lv' := [(2, .int (0 : Int32)), (0, .ref aq), (1, .int u)]) hx hb dX1_bearersOf_1 rfl hl (by decide) rfl (fun ls hl => ?_)
  refine lv_iconst (v := (0 : Int32)) hx hb dX1_bearersOf_2 (by decide) ?_
  refine lv_istore_n (lv' := [(3, .int (0 : Int32)), (2, .int (0 : Int32)), (0, .ref aq), (1, .int u)]) hx hb dX1_bearersOf_3 rfl hl (by decide) rfl (fun ls hl => ?_)
  have hL4 : ∀ (k4 : Int32 → Int32 → Option Int32), (∀ (v1 : Int32) (v2 : Int32) (H : Heap) (locs : List Loc), va_P D vwCl [(aq, .inr (1, [.ref ap, .int qgone, .int qmet, .int qstill, .int qdone, .ref aqh, .ref aqw, .ref aqs, .ref aqu])), (aqh, .inl (cI, 6, .inl qhour)), (aqw, .inl (cI, 6, .inl qworn)), (aqs, .inl (cI, 5, .inl qsquare)), (aqu, .inl (cI, 5, .inl qunder)), (ap, .inr (2, [.int psq, .int ppa, .int ppe, .int pwo, .ref apk, .ref apq, .ref apr])), (apk, .inl (cI, 6, .inl pkind)), (apq, .inl (cI, 6, .inl pwsq)), (apr, .inl (cI, 6, .inl pwhr))] H → va_D A [(aq, .inr (1, [.ref ap, .int qgone, .int qmet, .int qstill, .int qdone, .ref aqh, .ref aqw, .ref aqs, .ref aqu])), (aqh, .inl (cI, 6, .inl qhour)), (aqw, .inl (cI, 6, .inl qworn)), (aqs, .inl (cI, 5, .inl qsquare)), (aqu, .inl (cI, 5, .inl qunder)), (ap, .inr (2, [.int psq, .int ppa, .int ppe, .int pwo, .ref apk, .ref apq, .ref apr])), (apk, .inl (cI, 6, .inl pkind)), (apq, .inl (cI, 6, .inl pwsq)), (apr, .inl (cI, 6, .inl pwhr))] → va_S A s.heap H locs → ∀ ls : Array Slot, lv_has ls 4 [(2, .int v1)] → k4 v1 v2 = some rr → W p l e rm_X1_bearersOf s m args below meth c H locs 0 0 Q (F0 m 36 ls [])) → ∀ (nf4 : Nat) (v1 : Int32) (v2 : Int32) (H : Heap) (locs : List Loc), va_P D vwCl [(aq, .inr (1, [.ref ap, .int qgone, .int qmet, .int qstill, .int qdone, .ref aqh, .ref aqw, .ref aqs, .ref aqu])), (aqh, .inl (cI, 6, .inl qhour)), (aqw, .inl (cI, 6, .inl qworn)), (aqs, .inl (cI, 5, .inl qsquare)), (aqu, .inl (cI, 5, .inl qunder)), (ap, .inr (2, [.int psq, .int ppa, .int ppe, .int pwo, .ref apk, .ref apq, .ref apr])), (apk, .inl (cI, 6, .inl pkind)), (apq, .inl (cI, 6, .inl pwsq)), (apr, .inl (cI, 6, .inl pwhr))] H → va_D A [(aq, .inr (1, [.ref ap, .int qgone, .int qmet, .int qstill, .int qdone, .ref aqh, .ref aqw, .ref aqs, .ref aqu])), (aqh, .inl (cI, 6, .inl qhour)), (aqw, .inl (cI, 6, .inl qworn)), (aqs, .inl (cI, 5, .inl qsquare)), (aqu, .inl (cI, 5, .inl qunder)), (ap, .inr (2, [.int psq, .int ppa, .int ppe, .int pwo, .ref apk, .ref apq, .ref apr])), (apk, .inl (cI, 6, .inl pkind)), (apq, .inl (cI, 6, .inl pwsq)), (apr, .inl (cI, 6, .inl pwhr))] → va_S A s.heap H locs → ∀ ls : Array Slot, lv_has ls 4 [(3, .int v2), (2, .int v1), (0, .ref aq), (1, .int u)] → f_X1_bearersOf_L4 ppe qunder u k4 nf4 v1 v2 = some rr → W p l e rm_X1_bearersOf s m args below meth c H locs 0 0 Q (F0 m 4 ls []) := by
    intro k4 hk4 nf4
    induction nf4 with
    | zero =>
      intro v1 v2 H locs hP hD hS ls hl hF
      rw [f_X1_bearersOf_L4_0] at hF
      cases hF
    | succ nf4 ih4 =>
      intro v1 v2 H locs hP hD hS ls hl hF
      rw [f_X1_bearersOf_L4_s] at hF
      refine lv_iload_n hx hb dX1_bearersOf_4 rfl (lv_at hl 0 rfl) ?_
      refine lv_aload_n hx hb dX1_bearersOf_5 rfl (lv_at hl 2 rfl) ?_
      refine va_get (D := D) (ci := 1) (v := .ref ap) (C := RX1) (T := TX1) (N := 9) hx hb hts iX1 hown hK hP 0 rfl rfl 0 (by decide) k_f24 (fun _ h9 => h9) rfl dX1_bearersOf_6 ?_
      refine va_get (D := D) (ci := 2) (v := .int ppe) (C := RX2) (T := TX2) (N := 7) hx hb hts iX2 hown hK hP 5 rfl rfl 2 (by decide) k_f53 (fun _ h9 => h9) rfl dX1_bearersOf_9 ?_
      refine lv_icmp_ge (tgt := 36) hx hb dX1_bearersOf_12 (by decide) (fun c3 => ?_) (fun c3 => ?_)
      · have hF := op_pos c3 hF
        exact hk4 v1 v2 _ _ hP hD hS _ (lv_sub hl [1] rfl) hF
      · have hF := op_neg c3 hF
        refine lv_aload_n hx hb dX1_bearersOf_15 rfl (lv_at hl 2 rfl) ?_
        refine lv_iload_n hx hb dX1_bearersOf_16 rfl (lv_at hl 0 rfl) ?_
        obtain ⟨r4, hb5, hF⟩ := op_bind hF
        refine xVr (As := [.int v2]) (rest := []) hC hP hD hS [0, 1, 2, 3, 4, 5, 6, 7, 8] (c_X1_parasolOf l D cI cC cM aq aqh aqw aqs aqu ap apk apq apr qgone qmet qstill qdone qhour qworn qsquare qunder psq ppa ppe pwo pkind pwsq pwhr v2 r4 hb5) (cwV 1 hts gX1_bearersOf_X1_parasolOf rfl rfl rfl ⟨rfl, pd_X1_parasolOf⟩ ⟨Nat.le_of_ble_eq_true rfl, Nat.le_of_ble_eq_true rfl⟩) rfl rfl 0 1 rfl rfl rfl rfl hl.1 rfl (Nat.le_of_ble_eq_true rfl) dX1_bearersOf_17 ⟨Nat.zero_le _, Nat.zero_le _⟩ (fun H locs hP hS => ?_)
        refine lv_iload_n hx hb dX1_bearersOf_20 rfl (lv_at hl 3 rfl) ?_
        refine lv_icmp_ne (tgt := 30) hx hb dX1_bearersOf_21 (by decide) (fun c6 => ?_) (fun c6 => ?_)
        · have hF := op_neg c6 hF
          refine lv_iinc (v := (v2 + (1 : Int32))) (lv' := [(3, .int (v2 + (1 : Int32))), (2, .int v1), (0, .ref aq), (1, .int u)]) hx hb dX1_bearersOf_30 hl (k := 0) rfl (by first | rfl | decide) (by decide) rfl (fun ls hl => ?_)
          refine lv_goto (tgt := 4) hx hb dX1_bearersOf_33 (by decide) ?_
          exact ih4 v1 (v2 + (1 : Int32)) _ _ hP hD hS _ (lv_sub hl [0, 1, 2, 3] rfl) hF
        · have hF := op_pos c6 hF
          refine lv_iload_n hx hb dX1_bearersOf_24 rfl (lv_at hl 1 rfl) ?_
          refine lv_iconst (v := (1 : Int32)) hx hb dX1_bearersOf_25 (by decide) ?_
          refine lv_iload_n hx hb dX1_bearersOf_26 rfl (lv_at hl 0 rfl) ?_
          refine lv_ishl hx hb dX1_bearersOf_27 ?_
          refine lv_ior hx hb dX1_bearersOf_28 ?_
          refine lv_istore_n (lv' := [(2, .int (v1 ||| ((1 : Int32) <<< (v2 &&& 31)))), (3, .int v2), (0, .ref aq), (1, .int u)]) hx hb dX1_bearersOf_29 rfl hl (by decide) rfl (fun ls hl => ?_)
          refine lv_iinc (v := (v2 + (1 : Int32))) (lv' := [(3, .int (v2 + (1 : Int32))), (2, .int (v1 ||| ((1 : Int32) <<< (v2 &&& 31)))), (0, .ref aq), (1, .int u)]) hx hb dX1_bearersOf_30 hl (k := 1) rfl (by first | rfl | decide) (by decide) rfl (fun ls hl => ?_)
          refine lv_goto (tgt := 4) hx hb dX1_bearersOf_33 (by decide) ?_
          exact ih4 (v1 ||| ((1 : Int32) <<< (v2 &&& 31))) (v2 + (1 : Int32)) _ _ hP hD hS _ (lv_sub hl [0, 1, 2, 3] rfl) hF
  refine hL4 _ (fun v1 v2 H locs hP hD hS ls hl hF => ?_) 20000 (0 : Int32) (0 : Int32) _ _ hP hD hS _ (lv_sub hl [0, 1, 2, 3] rfl) hF
  refine lv_iload_n hx hb dX1_bearersOf_36 rfl (lv_at hl 0 rfl) ?_
  cases hF
  rw [hQ]
  exact xri hC hP hS dX1_bearersOf_37

def f_X1_isInStand (qunder : (Nat → Int32)) (ppe : Int32) (u : Int32) : Option Int32 := (Option.bind (f_X1_bearersOf qunder ppe u) fun r1 => (if r1 = 0 then (some (1 : Int32)) else (some (0 : Int32))))

def rm_X1_isInStand : Room := { frames := 3, cells := 0, slots := 0, locals := 65 }

theorem pd_X1_isInStand : yX1_isInStand.cls ≠ "java/lang/invoke/MethodHandle" ∧ yX1_isInStand.cls ≠ "java/lang/invoke/VarHandle" ∧ (parseMethodDescriptor yX1_isInStand.desc).map (fun d => d.parameters.length) = some 1 := by decide +kernel

set_option maxHeartbeats 4000000 in
set_option maxRecDepth 100000 in
theorem c_X1_isInStand (l : Launch) (D : va_G) (cI cC cM : ClassId) (aq aqh aqw aqs aqu ap apk apq apr : Nat) (qgone : Int32) (qmet : Int32) (qstill : Int32) (qdone : Int32) (qhour : (Nat → Int32)) (qworn : (Nat → Int32)) (qsquare : (Nat → Int32)) (qunder : (Nat → Int32)) (psq : Int32) (ppa : Int32) (ppe : Int32) (pwo : Int32) (pkind : (Nat → Int32)) (pwsq : (Nat → Int32)) (pwhr : (Nat → Int32)) (u : Int32) (rr : Int32) (hF : f_X1_isInStand qunder ppe u = some rr) : CI l D cI cC cM yX1_isInStand wsX1_isInStand rm_X1_isInStand [.ref aq, .int u] [(aq, .inr (1, [.ref ap, .int qgone, .int qmet, .int qstill, .int qdone, .ref aqh, .ref aqw, .ref aqs, .ref aqu])), (aqh, .inl (cI, 6, .inl qhour)), (aqw, .inl (cI, 6, .inl qworn)), (aqs, .inl (cI, 5, .inl qsquare)), (aqu, .inl (cI, 5, .inl qunder)), (ap, .inr (2, [.int psq, .int ppa, .int ppe, .int pwo, .ref apk, .ref apq, .ref apr])), (apk, .inl (cI, 6, .inl pkind)), (apq, .inl (cI, 6, .inl pwsq)), (apr, .inl (cI, 6, .inl pwhr))] [(aq, .inr (1, [.ref ap, .int qgone, .int qmet, .int qstill, .int qdone, .ref aqh, .ref aqw, .ref aqs, .ref aqu])), (aqh, .inl (cI, 6, .inl qhour)), (aqw, .inl (cI, 6, .inl qworn)), (aqs, .inl (cI, 5, .inl qsquare)), (aqu, .inl (cI, 5, .inl qunder)), (ap, .inr (2, [.int psq, .int ppa, .int ppe, .int pwo, .ref apk, .ref apq, .ref apr])), (apk, .inl (cI, 6, .inl pkind)), (apq, .inl (cI, 6, .inl pwsq)), (apr, .inl (cI, 6, .inl pwhr))] rr := by
  refine CI.of (cc := cX1_isInStand) (nL := 2) (ret := (some .boolean)) (by decide) rfl (Nat.le_of_ble_eq_true rfl) ?_
  intro p e s m args below meth c A hC hP hD hS ls hl
  obtain ⟨hx, hb, hml, hown, hts, hr, hlk, hG, hA⟩ := id hC
  have hown : s.vm.findClass RX1 = some m.cls := hown
  have hK := hG.1
  have hl : lv_has ls 2 [(0, .ref aq), (1, .int u)] := hl
  obtain ⟨Q, hQ⟩ : ∃ Q, Q = MQ below (QI D [(aq, .inr (1, [.ref ap, .int qgone, .int qmet, .int qstill, .int qdone, .ref aqh, .ref aqw, .ref aqs, .ref aqu])), (aqh, .inl (cI, 6, .inl qhour)), (aqw, .inl (cI, 6, .inl qworn)), (aqs, .inl (cI, 5, .inl qsquare)), (aqu, .inl (cI, 5, .inl qunder)), (ap, .inr (2, [.int psq, .int ppa, .int ppe, .int pwo, .ref apk, .ref apq, .ref apr])), (apk, .inl (cI, 6, .inl pkind)), (apq, .inl (cI, 6, .inl pwsq)), (apr, .inl (cI, 6, .inl pwhr))] rr A) args s 0 0 A := ⟨_, rfl⟩
  rw [← hQ]
  unfold f_X1_isInStand at hF
  refine lv_aload_n hx hb dX1_isInStand_0 rfl (lv_at hl 0 rfl) ?_
  refine lv_iload_n hx hb dX1_isInStand_1 rfl (lv_at hl 1 rfl) ?_
  obtain ⟨r1, hb2, hF⟩ := op_bind hF
  refine xVr (As := [.int u]) (rest := []) hC hP hD hS [0, 1, 2, 3, 4, 5, 6, 7, 8] (c_X1_bearersOf l D cI cC cM aq aqh aqw aqs aqu ap apk apq apr qgone qmet qstill qdone qhour qworn qsquare qunder psq ppa ppe pwo pkind pwsq pwhr u r1 hb2) (cwV 1 hts gX1_isInStand_X1_bearersOf rfl rfl rfl ⟨rfl, pd_X1_bearersOf⟩ ⟨Nat.le_of_ble_eq_true rfl, Nat.le_of_ble_eq_true rfl⟩) rfl rfl 0 1 rfl rfl rfl rfl hl.1 rfl (Nat.le_of_ble_eq_true rfl) dX1_isInStand_2 ⟨Nat.zero_le _, Nat.zero_le _⟩ (fun H locs hP hS => ?_)
  refine lv_if_ne (tgt := 12) hx hb dX1_isInStand_5 (by decide) (fun c3 => ?_) (fun c3 => ?_)
  · have hF := op_neg c3 hF
    refine lv_iconst (v := (0 : Int32)) hx hb dX1_isInStand_12 (by decide) ?_
    cases hF
    rw [hQ]
    exact xrz hC rfl hP hS dX1_isInStand_13
  · have hF := op_pos c3 hF
    refine lv_iconst (v := (1 : Int32)) hx hb dX1_isInStand_8 (by decide) ?_
    refine lv_goto (tgt := 13) hx hb dX1_isInStand_9 (by decide) ?_
    cases hF
    rw [hQ]
    exact xrz hC rfl hP hS dX1_isInStand_13

def f_X1_parasolsInStand_L4 (ppa : Int32) (qunder : (Nat → Int32)) (ppe : Int32) (k4 : Int32 → Int32 → Option Int32) : Nat → Int32 → Int32 → Option Int32
  | 0, _, _ => none
  | nf4 + 1, v1, v2 => (if ppa ≤ v2 then (k4 v1 v2) else (Option.bind (f_X1_isInStand qunder ppe v2) fun r4 => (if r4 = 0 then (f_X1_parasolsInStand_L4 ppa qunder ppe k4 nf4 v1 (v2 + (1 : Int32))) else (f_X1_parasolsInStand_L4 ppa qunder ppe k4 nf4 (v1 + (1 : Int32)) (v2 + (1 : Int32))))))
theorem f_X1_parasolsInStand_L4_0 (ppa : Int32) (qunder : (Nat → Int32)) (ppe : Int32) (k4 : Int32 → Int32 → Option Int32) (v1 : Int32) (v2 : Int32) : f_X1_parasolsInStand_L4 ppa qunder ppe k4 0 v1 v2 = none := rfl
theorem f_X1_parasolsInStand_L4_s (ppa : Int32) (qunder : (Nat → Int32)) (ppe : Int32) (k4 : Int32 → Int32 → Option Int32) (nf4 : Nat) (v1 : Int32) (v2 : Int32) : f_X1_parasolsInStand_L4 ppa qunder ppe k4 (nf4 + 1) v1 v2 = (if ppa ≤ v2 then (k4 v1 v2) else (Option.bind (f_X1_isInStand qunder ppe v2) fun r4 => (if r4 = 0 then (f_X1_parasolsInStand_L4 ppa qunder ppe k4 nf4 v1 (v2 + (1 : Int32))) else (f_X1_parasolsInStand_L4 ppa qunder ppe k4 nf4 (v1 + (1 : Int32)) (v2 + (1 : Int32)))))) := rfl

def f_X1_parasolsInStand (qunder : (Nat → Int32)) (ppa : Int32) (ppe : Int32) : Option Int32 := (f_X1_parasolsInStand_L4 ppa qunder ppe (fun (v1 : Int32) (v2 : Int32) => (some v1)) 20000 (0 : Int32) (0 : Int32))

def rm_X1_parasolsInStand : Room := { frames := 4, cells := 0, slots := 0, locals := 86 }

theorem pd_X1_parasolsInStand : yX1_parasolsInStand.cls ≠ "java/lang/invoke/MethodHandle" ∧ yX1_parasolsInStand.cls ≠ "java/lang/invoke/VarHandle" ∧ (parseMethodDescriptor yX1_parasolsInStand.desc).map (fun d => d.parameters.length) = some 0 := by decide +kernel

set_option maxHeartbeats 4000000 in
set_option maxRecDepth 100000 in
theorem c_X1_parasolsInStand (l : Launch) (D : va_G) (cI cC cM : ClassId) (aq aqh aqw aqs aqu ap apk apq apr : Nat) (qgone : Int32) (qmet : Int32) (qstill : Int32) (qdone : Int32) (qhour : (Nat → Int32)) (qworn : (Nat → Int32)) (qsquare : (Nat → Int32)) (qunder : (Nat → Int32)) (psq : Int32) (ppa : Int32) (ppe : Int32) (pwo : Int32) (pkind : (Nat → Int32)) (pwsq : (Nat → Int32)) (pwhr : (Nat → Int32)) (rr : Int32) (hF : f_X1_parasolsInStand qunder ppa ppe = some rr) : CI l D cI cC cM yX1_parasolsInStand wsX1_parasolsInStand rm_X1_parasolsInStand [.ref aq] [(aq, .inr (1, [.ref ap, .int qgone, .int qmet, .int qstill, .int qdone, .ref aqh, .ref aqw, .ref aqs, .ref aqu])), (aqh, .inl (cI, 6, .inl qhour)), (aqw, .inl (cI, 6, .inl qworn)), (aqs, .inl (cI, 5, .inl qsquare)), (aqu, .inl (cI, 5, .inl qunder)), (ap, .inr (2, [.int psq, .int ppa, .int ppe, .int pwo, .ref apk, .ref apq, .ref apr])), (apk, .inl (cI, 6, .inl pkind)), (apq, .inl (cI, 6, .inl pwsq)), (apr, .inl (cI, 6, .inl pwhr))] [(aq, .inr (1, [.ref ap, .int qgone, .int qmet, .int qstill, .int qdone, .ref aqh, .ref aqw, .ref aqs, .ref aqu])), (aqh, .inl (cI, 6, .inl qhour)), (aqw, .inl (cI, 6, .inl qworn)), (aqs, .inl (cI, 5, .inl qsquare)), (aqu, .inl (cI, 5, .inl qunder)), (ap, .inr (2, [.int psq, .int ppa, .int ppe, .int pwo, .ref apk, .ref apq, .ref apr])), (apk, .inl (cI, 6, .inl pkind)), (apq, .inl (cI, 6, .inl pwsq)), (apr, .inl (cI, 6, .inl pwhr))] rr := by
  refine CI.of (cc := cX1_parasolsInStand) (nL := 3) (ret := (some .int)) (by decide) rfl (Nat.le_of_ble_eq_true rfl) ?_
  intro p e s m args below meth c A hC hP hD hS ls hl
  obtain ⟨hx, hb, hml, hown, hts, hr, hlk, hG, hA⟩ := id hC
  have hown : s.vm.findClass RX1 = some m.cls := hown
  have hK := hG.1
  have hl : lv_has ls 3 [(0, .ref aq)] := hl
  have k_f24 := hts (.fieldLink RX1 24 "ParasolHours$Moment" "plan" "LParasolHours$Plan;") (List.mem_of_getElem? (i := 1) rfl)
  have k_f65 := hts (.fieldLink RX1 65 "ParasolHours$Plan" "parasols" "I") (List.mem_of_getElem? (i := 2) rfl)
  have iX1 : ∀ w ∈ wsX10, w ∈ wsX1_parasolsInStand := by decide +kernel
  have iX2 : ∀ w ∈ wsX20, w ∈ wsX1_parasolsInStand := by decide +kernel
  obtain ⟨Q, hQ⟩ : ∃ Q, Q = MQ below (QI D [(aq, .inr (1, [.ref ap, .int qgone, .int qmet, .int qstill, .int qdone, .ref aqh, .ref aqw, .ref aqs, .ref aqu])), (aqh, .inl (cI, 6, .inl qhour)), (aqw, .inl (cI, 6, .inl qworn)), (aqs, .inl (cI, 5, .inl qsquare)), (aqu, .inl (cI, 5, .inl qunder)), (ap, .inr (2, [.int psq, .int ppa, .int ppe, .int pwo, .ref apk, .ref apq, .ref apr])), (apk, .inl (cI, 6, .inl pkind)), (apq, .inl (cI, 6, .inl pwsq)), (apr, .inl (cI, 6, .inl pwhr))] rr A) args s 0 0 A := ⟨_, rfl⟩
  rw [← hQ]
  unfold f_X1_parasolsInStand at hF
  refine lv_iconst (v := (0 : Int32)) hx hb dX1_parasolsInStand_0 (by decide) ?_
  refine lv_istore_n (lv' := [(1, .int (0 : Int32)), (0, .ref aq)]) hx hb dX1_parasolsInStand_1 rfl hl (by decide) rfl (fun ls hl => ?_)
  refine lv_iconst (v := (0 : Int32)) hx hb dX1_parasolsInStand_2 (by decide) ?_
  refine lv_istore_n (lv' := [(2, .int (0 : Int32)), (1, .int (0 : Int32)), (0, .ref aq)]) hx hb dX1_parasolsInStand_3 rfl hl (by decide) rfl (fun ls hl => ?_)
  have hL4 : ∀ (k4 : Int32 → Int32 → Option Int32), (∀ (v1 : Int32) (v2 : Int32) (H : Heap) (locs : List Loc), va_P D vwCl [(aq, .inr (1, [.ref ap, .int qgone, .int qmet, .int qstill, .int qdone, .ref aqh, .ref aqw, .ref aqs, .ref aqu])), (aqh, .inl (cI, 6, .inl qhour)), (aqw, .inl (cI, 6, .inl qworn)), (aqs, .inl (cI, 5, .inl qsquare)), (aqu, .inl (cI, 5, .inl qunder)), (ap, .inr (2, [.int psq, .int ppa, .int ppe, .int pwo, .ref apk, .ref apq, .ref apr])), (apk, .inl (cI, 6, .inl pkind)), (apq, .inl (cI, 6, .inl pwsq)), (apr, .inl (cI, 6, .inl pwhr))] H → va_D A [(aq, .inr (1, [.ref ap, .int qgone, .int qmet, .int qstill, .int qdone, .ref aqh, .ref aqw, .ref aqs, .ref aqu])), (aqh, .inl (cI, 6, .inl qhour)), (aqw, .inl (cI, 6, .inl qworn)), (aqs, .inl (cI, 5, .inl qsquare)), (aqu, .inl (cI, 5, .inl qunder)), (ap, .inr (2, [.int psq, .int ppa, .int ppe, .int pwo, .ref apk, .ref apq, .ref apr])), (apk, .inl (cI, 6, .inl pkind)), (apq, .inl (cI, 6, .inl pwsq)), (apr, .inl (cI, 6, .inl pwhr))] → va_S A s.heap H locs → ∀ ls : Array Slot, lv_has ls 3 [(1, .int v1)] → k4 v1 v2 = some rr → W p l e rm_X1_parasolsInStand s m args below meth c H locs 0 0 Q (F0 m 32 ls [])) → ∀ (nf4 : Nat) (v1 : Int32) (v2 : Int32) (H : Heap) (locs : List Loc), va_P D vwCl [(aq, .inr (1, [.ref ap, .int qgone, .int qmet, .int qstill, .int qdone, .ref aqh, .ref aqw, .ref aqs, .ref aqu])), (aqh, .inl (cI, 6, .inl qhour)), (aqw, .inl (cI, 6, .inl qworn)), (aqs, .inl (cI, 5, .inl qsquare)), (aqu, .inl (cI, 5, .inl qunder)), (ap, .inr (2, [.int psq, .int ppa, .int ppe, .int pwo, .ref apk, .ref apq, .ref apr])), (apk, .inl (cI, 6, .inl pkind)), (apq, .inl (cI, 6, .inl pwsq)), (apr, .inl (cI, 6, .inl pwhr))] H → va_D A [(aq, .inr (1, [.ref ap, .int qgone, .int qmet, .int qstill, .int qdone, .ref aqh, .ref aqw, .ref aqs, .ref aqu])), (aqh, .inl (cI, 6, .inl qhour)), (aqw, .inl (cI, 6, .inl qworn)), (aqs, .inl (cI, 5, .inl qsquare)), (aqu, .inl (cI, 5, .inl qunder)), (ap, .inr (2, [.int psq, .int ppa, .int ppe, .int pwo, .ref apk, .ref apq, .ref apr])), (apk, .inl (cI, 6, .inl pkind)), (apq, .inl (cI, 6, .inl pwsq)), (apr, .inl (cI, 6, .inl pwhr))] → va_S A s.heap H locs → ∀ ls : Array Slot, lv_has ls 3 [(2, .int v2), (1, .int v1), (0, .ref aq)] → f_X1_parasolsInStand_L4 ppa qunder ppe k4 nf4 v1 v2 = some rr → W p l e rm_X1_parasolsInStand s m args below meth c H locs 0 0 Q (F0 m 4 ls []) := by
    intro k4 hk4 nf4
    induction nf4 with
    | zero =>
      intro v1 v2 H locs hP hD hS ls hl hF
      rw [f_X1_parasolsInStand_L4_0] at hF
      cases hF
    | succ nf4 ih4 =>
      intro v1 v2 H locs hP hD hS ls hl hF
      rw [f_X1_parasolsInStand_L4_s] at hF
      refine lv_iload_n hx hb dX1_parasolsInStand_4 rfl (lv_at hl 0 rfl) ?_
      refine lv_aload_n hx hb dX1_parasolsInStand_5 rfl (lv_at hl 2 rfl) ?_
      refine va_get (D := D) (ci := 1) (v := .ref ap) (C := RX1) (T := TX1) (N := 9) hx hb hts iX1 hown hK hP 0 rfl rfl 0 (by decide) k_f24 (fun _ h9 => h9) rfl dX1_parasolsInStand_6 ?_
      refine va_get (D := D) (ci := 2) (v := .int ppa) (C := RX2) (T := TX2) (N := 7) hx hb hts iX2 hown hK hP 5 rfl rfl 1 (by decide) k_f65 (fun _ h9 => h9) rfl dX1_parasolsInStand_9 ?_
      refine lv_icmp_ge (tgt := 32) hx hb dX1_parasolsInStand_12 (by decide) (fun c3 => ?_) (fun c3 => ?_)
      · have hF := op_pos c3 hF
        exact hk4 v1 v2 _ _ hP hD hS _ (lv_sub hl [1] rfl) hF
      · have hF := op_neg c3 hF
        refine lv_aload_n hx hb dX1_parasolsInStand_15 rfl (lv_at hl 2 rfl) ?_
        refine lv_iload_n hx hb dX1_parasolsInStand_16 rfl (lv_at hl 0 rfl) ?_
        obtain ⟨r4, hb5, hF⟩ := op_bind hF
        refine xVr (As := [.int v2]) (rest := []) hC hP hD hS [0, 1, 2, 3, 4, 5, 6, 7, 8] (c_X1_isInStand l D cI cC cM aq aqh aqw aqs aqu ap apk apq apr qgone qmet qstill qdone qhour qworn qsquare qunder psq ppa ppe pwo pkind pwsq pwhr v2 r4 hb5) (cwV 1 hts gX1_parasolsInStand_X1_isInStand rfl rfl rfl ⟨rfl, pd_X1_isInStand⟩ ⟨Nat.le_of_ble_eq_true rfl, Nat.le_of_ble_eq_true rfl⟩) rfl rfl 0 1 rfl rfl rfl rfl hl.1 rfl (Nat.le_of_ble_eq_true rfl) dX1_parasolsInStand_17 ⟨Nat.zero_le _, Nat.zero_le _⟩ (fun H locs hP hS => ?_)
        refine lv_if_eq (tgt := 26) hx hb dX1_parasolsInStand_20 (by decide) (fun c6 => ?_) (fun c6 => ?_)
        · have hF := op_pos c6 hF
          refine lv_iinc (v := (v2 + (1 : Int32))) (lv' := [(2, .int (v2 + (1 : Int32))), (1, .int v1), (0, .ref aq)]) hx hb dX1_parasolsInStand_26 hl (k := 0) rfl (by first | rfl | decide) (by decide) rfl (fun ls hl => ?_)
          refine lv_goto (tgt := 4) hx hb dX1_parasolsInStand_29 (by decide) ?_
          exact ih4 v1 (v2 + (1 : Int32)) _ _ hP hD hS _ (lv_sub hl [0, 1, 2] rfl) hF
        · have hF := op_neg c6 hF
          refine lv_iinc (v := (v1 + (1 : Int32))) (lv' := [(1, .int (v1 + (1 : Int32))), (2, .int v2), (0, .ref aq)]) hx hb dX1_parasolsInStand_23 hl (k := 1) rfl (by first | rfl | decide) (by decide) rfl (fun ls hl => ?_)
          refine lv_iinc (v := (v2 + (1 : Int32))) (lv' := [(2, .int (v2 + (1 : Int32))), (1, .int (v1 + (1 : Int32))), (0, .ref aq)]) hx hb dX1_parasolsInStand_26 hl (k := 1) rfl (by first | rfl | decide) (by decide) rfl (fun ls hl => ?_)
          refine lv_goto (tgt := 4) hx hb dX1_parasolsInStand_29 (by decide) ?_
          exact ih4 (v1 + (1 : Int32)) (v2 + (1 : Int32)) _ _ hP hD hS _ (lv_sub hl [0, 1, 2] rfl) hF
  refine hL4 _ (fun v1 v2 H locs hP hD hS ls hl hF => ?_) 20000 (0 : Int32) (0 : Int32) _ _ hP hD hS _ (lv_sub hl [0, 1, 2] rfl) hF
  refine lv_iload_n hx hb dX1_parasolsInStand_32 rfl (lv_at hl 0 rfl) ?_
  cases hF
  rw [hQ]
  exact xri hC hP hS dX1_parasolsInStand_33

def f_X1_squareOfParasol_L2 (ppe : Int32) (qunder : (Nat → Int32)) (u : Int32) (qsquare : (Nat → Int32)) (k2 : Int32 → Option Int32) : Nat → Int32 → Option Int32
  | 0, _ => none
  | nf2 + 1, v1 => (if ppe ≤ v1 then (k2 v1) else (Option.bind (f_X1_parasolOf qunder v1) fun r3 => (if r3 = u then (Option.bind (f_X1_squareOf qsquare v1) fun r6 => (some r6)) else (f_X1_squareOfParasol_L2 ppe qunder u qsquare k2 nf2 (v1 + (1 : Int32))))))
theorem f_X1_squareOfParasol_L2_0 (ppe : Int32) (qunder : (Nat → Int32)) (u : Int32) (qsquare : (Nat → Int32)) (k2 : Int32 → Option Int32) (v1 : Int32) : f_X1_squareOfParasol_L2 ppe qunder u qsquare k2 0 v1 = none := rfl
theorem f_X1_squareOfParasol_L2_s (ppe : Int32) (qunder : (Nat → Int32)) (u : Int32) (qsquare : (Nat → Int32)) (k2 : Int32 → Option Int32) (nf2 : Nat) (v1 : Int32) : f_X1_squareOfParasol_L2 ppe qunder u qsquare k2 (nf2 + 1) v1 = (if ppe ≤ v1 then (k2 v1) else (Option.bind (f_X1_parasolOf qunder v1) fun r3 => (if r3 = u then (Option.bind (f_X1_squareOf qsquare v1) fun r6 => (some r6)) else (f_X1_squareOfParasol_L2 ppe qunder u qsquare k2 nf2 (v1 + (1 : Int32)))))) := rfl

def f_X1_squareOfParasol (qsquare : (Nat → Int32)) (qunder : (Nat → Int32)) (ppe : Int32) (u : Int32) : Option Int32 := (f_X1_squareOfParasol_L2 ppe qunder u qsquare (fun (v1 : Int32) => (some (0 : Int32))) 20000 (0 : Int32))

def rm_X1_squareOfParasol : Room := { frames := 2, cells := 0, slots := 0, locals := 42 }

theorem pd_X1_squareOfParasol : yX1_squareOfParasol.cls ≠ "java/lang/invoke/MethodHandle" ∧ yX1_squareOfParasol.cls ≠ "java/lang/invoke/VarHandle" ∧ (parseMethodDescriptor yX1_squareOfParasol.desc).map (fun d => d.parameters.length) = some 1 := by decide +kernel

set_option maxHeartbeats 4000000 in
set_option maxRecDepth 100000 in
theorem c_X1_squareOfParasol (l : Launch) (D : va_G) (cI cC cM : ClassId) (aq aqh aqw aqs aqu ap apk apq apr : Nat) (qgone : Int32) (qmet : Int32) (qstill : Int32) (qdone : Int32) (qhour : (Nat → Int32)) (qworn : (Nat → Int32)) (qsquare : (Nat → Int32)) (qunder : (Nat → Int32)) (psq : Int32) (ppa : Int32) (ppe : Int32) (pwo : Int32) (pkind : (Nat → Int32)) (pwsq : (Nat → Int32)) (pwhr : (Nat → Int32)) (u : Int32) (rr : Int32) (hF : f_X1_squareOfParasol qsquare qunder ppe u = some rr) : CI l D cI cC cM yX1_squareOfParasol wsX1_squareOfParasol rm_X1_squareOfParasol [.ref aq, .int u] [(aq, .inr (1, [.ref ap, .int qgone, .int qmet, .int qstill, .int qdone, .ref aqh, .ref aqw, .ref aqs, .ref aqu])), (aqh, .inl (cI, 6, .inl qhour)), (aqw, .inl (cI, 6, .inl qworn)), (aqs, .inl (cI, 5, .inl qsquare)), (aqu, .inl (cI, 5, .inl qunder)), (ap, .inr (2, [.int psq, .int ppa, .int ppe, .int pwo, .ref apk, .ref apq, .ref apr])), (apk, .inl (cI, 6, .inl pkind)), (apq, .inl (cI, 6, .inl pwsq)), (apr, .inl (cI, 6, .inl pwhr))] [(aq, .inr (1, [.ref ap, .int qgone, .int qmet, .int qstill, .int qdone, .ref aqh, .ref aqw, .ref aqs, .ref aqu])), (aqh, .inl (cI, 6, .inl qhour)), (aqw, .inl (cI, 6, .inl qworn)), (aqs, .inl (cI, 5, .inl qsquare)), (aqu, .inl (cI, 5, .inl qunder)), (ap, .inr (2, [.int psq, .int ppa, .int ppe, .int pwo, .ref apk, .ref apq, .ref apr])), (apk, .inl (cI, 6, .inl pkind)), (apq, .inl (cI, 6, .inl pwsq)), (apr, .inl (cI, 6, .inl pwhr))] rr := by
  refine CI.of (cc := cX1_squareOfParasol) (nL := 3) (ret := (some .int)) (by decide) rfl (Nat.le_of_ble_eq_true rfl) ?_
  intro p e s m args below meth c A hC hP hD hS ls hl
  obtain ⟨hx, hb, hml, hown, hts, hr, hlk, hG, hA⟩ := id hC
  have hown : s.vm.findClass RX1 = some m.cls := hown
  have hK := hG.1
  have hl : lv_has ls 3 [(0, .ref aq), (1, .int u)] := hl
  have k_f24 := hts (.fieldLink RX1 24 "ParasolHours$Moment" "plan" "LParasolHours$Plan;") (List.mem_of_getElem? (i := 1) rfl)
  have k_f53 := hts (.fieldLink RX1 53 "ParasolHours$Plan" "persons" "I") (List.mem_of_getElem? (i := 2) rfl)
  have iX1 : ∀ w ∈ wsX10, w ∈ wsX1_squareOfParasol := by decide +kernel
  have iX2 : ∀ w ∈ wsX20, w ∈ wsX1_squareOfParasol := by decide +kernel
  obtain ⟨Q, hQ⟩ : ∃ Q, Q = MQ below (QI D [(aq, .inr (1, [.ref ap, .int qgone, .int qmet, .int qstill, .int qdone, .ref aqh, .ref aqw, .ref aqs, .ref aqu])), (aqh, .inl (cI, 6, .inl qhour)), (aqw, .inl (cI, 6, .inl qworn)), (aqs, .inl (cI, 5, .inl qsquare)), (aqu, .inl (cI, 5, .inl qunder)), (ap, .inr (2, [.int psq, .int ppa, .int ppe, .int pwo, .ref apk, .ref apq, .ref apr])), (apk, .inl (cI, 6, .inl pkind)), (apq, .inl (cI, 6, .inl pwsq)), (apr, .inl (cI, 6, .inl pwhr))] rr A) args s 0 0 A := ⟨_, rfl⟩
  rw [← hQ]
  unfold f_X1_squareOfParasol at hF
  refine lv_iconst (v := (0 : Int32)) hx hb dX1_squareOfParasol_0 (by decide) ?_
  refine lv_istore_n (lv' := [(2, .int (0 : Int32)), (0, .ref aq), (1, .int u)]) hx hb dX1_squareOfParasol_1 rfl hl (by decide) rfl (fun ls hl => ?_)
  have hL2 : ∀ (k2 : Int32 → Option Int32), (∀ (v1 : Int32) (H : Heap) (locs : List Loc), va_P D vwCl [(aq, .inr (1, [.ref ap, .int qgone, .int qmet, .int qstill, .int qdone, .ref aqh, .ref aqw, .ref aqs, .ref aqu])), (aqh, .inl (cI, 6, .inl qhour)), (aqw, .inl (cI, 6, .inl qworn)), (aqs, .inl (cI, 5, .inl qsquare)), (aqu, .inl (cI, 5, .inl qunder)), (ap, .inr (2, [.int psq, .int ppa, .int ppe, .int pwo, .ref apk, .ref apq, .ref apr])), (apk, .inl (cI, 6, .inl pkind)), (apq, .inl (cI, 6, .inl pwsq)), (apr, .inl (cI, 6, .inl pwhr))] H → va_D A [(aq, .inr (1, [.ref ap, .int qgone, .int qmet, .int qstill, .int qdone, .ref aqh, .ref aqw, .ref aqs, .ref aqu])), (aqh, .inl (cI, 6, .inl qhour)), (aqw, .inl (cI, 6, .inl qworn)), (aqs, .inl (cI, 5, .inl qsquare)), (aqu, .inl (cI, 5, .inl qunder)), (ap, .inr (2, [.int psq, .int ppa, .int ppe, .int pwo, .ref apk, .ref apq, .ref apr])), (apk, .inl (cI, 6, .inl pkind)), (apq, .inl (cI, 6, .inl pwsq)), (apr, .inl (cI, 6, .inl pwhr))] → va_S A s.heap H locs → ∀ ls : Array Slot, lv_has ls 3 [] → k2 v1 = some rr → W p l e rm_X1_squareOfParasol s m args below meth c H locs 0 0 Q (F0 m 34 ls [])) → ∀ (nf2 : Nat) (v1 : Int32) (H : Heap) (locs : List Loc), va_P D vwCl [(aq, .inr (1, [.ref ap, .int qgone, .int qmet, .int qstill, .int qdone, .ref aqh, .ref aqw, .ref aqs, .ref aqu])), (aqh, .inl (cI, 6, .inl qhour)), (aqw, .inl (cI, 6, .inl qworn)), (aqs, .inl (cI, 5, .inl qsquare)), (aqu, .inl (cI, 5, .inl qunder)), (ap, .inr (2, [.int psq, .int ppa, .int ppe, .int pwo, .ref apk, .ref apq, .ref apr])), (apk, .inl (cI, 6, .inl pkind)), (apq, .inl (cI, 6, .inl pwsq)), (apr, .inl (cI, 6, .inl pwhr))] H → va_D A [(aq, .inr (1, [.ref ap, .int qgone, .int qmet, .int qstill, .int qdone, .ref aqh, .ref aqw, .ref aqs, .ref aqu])), (aqh, .inl (cI, 6, .inl qhour)), (aqw, .inl (cI, 6, .inl qworn)), (aqs, .inl (cI, 5, .inl qsquare)), (aqu, .inl (cI, 5, .inl qunder)), (ap, .inr (2, [.int psq, .int ppa, .int ppe, .int pwo, .ref apk, .ref apq, .ref apr])), (apk, .inl (cI, 6, .inl pkind)), (apq, .inl (cI, 6, .inl pwsq)), (apr, .inl (cI, 6, .inl pwhr))] → va_S A s.heap H locs → ∀ ls : Array Slot, lv_has ls 3 [(2, .int v1), (0, .ref aq), (1, .int u)] → f_X1_squareOfParasol_L2 ppe qunder u qsquare k2 nf2 v1 = some rr → W p l e rm_X1_squareOfParasol s m args below meth c H locs 0 0 Q (F0 m 2 ls []) := by
    intro k2 hk2 nf2
    induction nf2 with
    | zero =>
      intro v1 H locs hP hD hS ls hl hF
      rw [f_X1_squareOfParasol_L2_0] at hF
      cases hF
    | succ nf2 ih2 =>
      intro v1 H locs hP hD hS ls hl hF
      rw [f_X1_squareOfParasol_L2_s] at hF
      refine lv_iload_n hx hb dX1_squareOfParasol_2 rfl (lv_at hl 0 rfl) ?_
      refine lv_aload_n hx hb dX1_squareOfParasol_3 rfl (lv_at hl 1 rfl) ?_
      refine va_get (D := D) (ci := 1) (v := .ref ap) (C := RX1) (T := TX1) (N := 9) hx hb hts iX1 hown hK hP 0 rfl rfl 0 (by decide) k_f24 (fun _ h9 => h9) rfl dX1_squareOfParasol_4 ?_
      refine va_get (D := D) (ci := 2) (v := .int ppe) (C := RX2) (T := TX2) (N := 7) hx hb hts iX2 hown hK hP 5 rfl rfl 2 (by decide) k_f53 (fun _ h9 => h9) rfl dX1_squareOfParasol_7 ?_
      refine lv_icmp_ge (tgt := 34) hx hb dX1_squareOfParasol_10 (by decide) (fun c2 => ?_) (fun c2 => ?_)
      · have hF := op_pos c2 hF
        exact hk2 v1 _ _ hP hD hS _ (lv_sub hl [] rfl) hF
      · have hF := op_neg c2 hF
        refine lv_aload_n hx hb dX1_squareOfParasol_13 rfl (lv_at hl 1 rfl) ?_
        refine lv_iload_n hx hb dX1_squareOfParasol_14 rfl (lv_at hl 0 rfl) ?_
        obtain ⟨r3, hb4, hF⟩ := op_bind hF
        refine xVr (As := [.int v1]) (rest := []) hC hP hD hS [0, 1, 2, 3, 4, 5, 6, 7, 8] (c_X1_parasolOf l D cI cC cM aq aqh aqw aqs aqu ap apk apq apr qgone qmet qstill qdone qhour qworn qsquare qunder psq ppa ppe pwo pkind pwsq pwhr v1 r3 hb4) (cwV 1 hts gX1_squareOfParasol_X1_parasolOf rfl rfl rfl ⟨rfl, pd_X1_parasolOf⟩ ⟨Nat.le_of_ble_eq_true rfl, Nat.le_of_ble_eq_true rfl⟩) rfl rfl 0 1 rfl rfl rfl rfl hl.1 rfl (Nat.le_of_ble_eq_true rfl) dX1_squareOfParasol_15 ⟨Nat.zero_le _, Nat.zero_le _⟩ (fun H locs hP hS => ?_)
        refine lv_iload_n hx hb dX1_squareOfParasol_18 rfl (lv_at hl 2 rfl) ?_
        refine lv_icmp_ne (tgt := 28) hx hb dX1_squareOfParasol_19 (by decide) (fun c5 => ?_) (fun c5 => ?_)
        · have hF := op_neg c5 hF
          refine lv_iinc (v := (v1 + (1 : Int32))) (lv' := [(2, .int (v1 + (1 : Int32))), (0, .ref aq), (1, .int u)]) hx hb dX1_squareOfParasol_28 hl (k := 0) rfl (by first | rfl | decide) (by decide) rfl (fun ls hl => ?_)
          refine lv_goto (tgt := 2) hx hb dX1_squareOfParasol_31 (by decide) ?_
          exact ih2 (v1 + (1 : Int32)) _ _ hP hD hS _ (lv_sub hl [0, 1, 2] rfl) hF
        · have hF := op_pos c5 hF
          refine lv_aload_n hx hb dX1_squareOfParasol_22 rfl (lv_at hl 1 rfl) ?_
          refine lv_iload_n hx hb dX1_squareOfParasol_23 rfl (lv_at hl 0 rfl) ?_
          obtain ⟨r6, hb7, hF⟩ := op_bind hF
          refine xVr (As := [.int v1]) (rest := []) hC hP hD hS [0, 1, 2, 3, 4, 5, 6, 7, 8] (c_X1_squareOf l D cI cC cM aq aqh aqw aqs aqu ap apk apq apr qgone qmet qstill qdone qhour qworn qsquare qunder psq ppa ppe pwo pkind pwsq pwhr v1 r6 hb7) (cwV 1 hts gX1_squareOfParasol_X1_squareOf rfl rfl rfl ⟨rfl, pd_X1_squareOf⟩ ⟨Nat.le_of_ble_eq_true rfl, Nat.le_of_ble_eq_true rfl⟩) rfl rfl 0 1 rfl rfl rfl rfl hl.1 rfl (Nat.le_of_ble_eq_true rfl) dX1_squareOfParasol_24 ⟨Nat.zero_le _, Nat.zero_le _⟩ (fun H locs hP hS => ?_)
          cases hF
          rw [hQ]
          exact xri hC hP hS dX1_squareOfParasol_27
  refine hL2 _ (fun v1 H locs hP hD hS ls hl hF => ?_) 20000 (0 : Int32) _ _ hP hD hS _ (lv_sub hl [0, 1, 2] rfl) hF
  refine lv_iconst (v := (0 : Int32)) hx hb dX1_squareOfParasol_34 (by decide) ?_
  cases hF
  rw [hQ]
  exact xri hC hP hS dX1_squareOfParasol_35

def f_X1_hasShade (qworn : (Nat → Int32)) (qsquare : (Nat → Int32)) (qunder : (Nat → Int32)) (u : Int32) : Option Int32 := (Option.bind (f_X1_parasolOf qunder u) fun r1 => (Option.bind (f_X1_squareOf qsquare u) fun r3 => (if r3 = 0 then (some (1 : Int32)) else (if r1 = (-4 : Int32) then (some (0 : Int32)) else (Option.bind (f_X1_wornOf qworn r1) fun r7 => (if (12 : Int32) < r7 then (some (0 : Int32)) else (some (1 : Int32))))))))

def rm_X1_hasShade : Room := { frames := 2, cells := 0, slots := 0, locals := 42 }

theorem pd_X1_hasShade : yX1_hasShade.cls ≠ "java/lang/invoke/MethodHandle" ∧ yX1_hasShade.cls ≠ "java/lang/invoke/VarHandle" ∧ (parseMethodDescriptor yX1_hasShade.desc).map (fun d => d.parameters.length) = some 1 := by decide +kernel

set_option maxHeartbeats 4000000 in
set_option maxRecDepth 100000 in
theorem c_X1_hasShade (l : Launch) (D : va_G) (cI cC cM : ClassId) (aq aqh aqw aqs aqu ap apk apq apr : Nat) (qgone : Int32) (qmet : Int32) (qstill : Int32) (qdone : Int32) (qhour : (Nat → Int32)) (qworn : (Nat → Int32)) (qsquare : (Nat → Int32)) (qunder : (Nat → Int32)) (psq : Int32) (ppa : Int32) (ppe : Int32) (pwo : Int32) (pkind : (Nat → Int32)) (pwsq : (Nat → Int32)) (pwhr : (Nat → Int32)) (u : Int32) (rr : Int32) (hF : f_X1_hasShade qworn qsquare qunder u = some rr) : CI l D cI cC cM yX1_hasShade wsX1_hasShade rm_X1_hasShade [.ref aq, .int u] [(aq, .inr (1, [.ref ap, .int qgone, .int qmet, .int qstill, .int qdone, .ref aqh, .ref aqw, .ref aqs, .ref aqu])), (aqh, .inl (cI, 6, .inl qhour)), (aqw, .inl (cI, 6, .inl qworn)), (aqs, .inl (cI, 5, .inl qsquare)), (aqu, .inl (cI, 5, .inl qunder)), (ap, .inr (2, [.int psq, .int ppa, .int ppe, .int pwo, .ref apk, .ref apq, .ref apr])), (apk, .inl (cI, 6, .inl pkind)), (apq, .inl (cI, 6, .inl pwsq)), (apr, .inl (cI, 6, .inl pwhr))] [(aq, .inr (1, [.ref ap, .int qgone, .int qmet, .int qstill, .int qdone, .ref aqh, .ref aqw, .ref aqs, .ref aqu])), (aqh, .inl (cI, 6, .inl qhour)), (aqw, .inl (cI, 6, .inl qworn)), (aqs, .inl (cI, 5, .inl qsquare)), (aqu, .inl (cI, 5, .inl qunder)), (ap, .inr (2, [.int psq, .int ppa, .int ppe, .int pwo, .ref apk, .ref apq, .ref apr])), (apk, .inl (cI, 6, .inl pkind)), (apq, .inl (cI, 6, .inl pwsq)), (apr, .inl (cI, 6, .inl pwhr))] rr := by
  refine CI.of (cc := cX1_hasShade) (nL := 3) (ret := (some .boolean)) (by decide) rfl (Nat.le_of_ble_eq_true rfl) ?_
  intro p e s m args below meth c A hC hP hD hS ls hl
  obtain ⟨hx, hb, hml, hown, hts, hr, hlk, hG, hA⟩ := id hC
  have hown : s.vm.findClass RX1 = some m.cls := hown
  have hK := hG.1
  have hl : lv_has ls 3 [(0, .ref aq), (1, .int u)] := hl
  obtain ⟨Q, hQ⟩ : ∃ Q, Q = MQ below (QI D [(aq, .inr (1, [.ref ap, .int qgone, .int qmet, .int qstill, .int qdone, .ref aqh, .ref aqw, .ref aqs, .ref aqu])), (aqh, .inl (cI, 6, .inl qhour)), (aqw, .inl (cI, 6, .inl qworn)), (aqs, .inl (cI, 5, .inl qsquare)), (aqu, .inl (cI, 5, .inl qunder)), (ap, .inr (2, [.int psq, .int ppa, .int ppe, .int pwo, .ref apk, .ref apq, .ref apr])), (apk, .inl (cI, 6, .inl pkind)), (apq, .inl (cI, 6, .inl pwsq)), (apr, .inl (cI, 6, .inl pwhr))] rr A) args s 0 0 A := ⟨_, rfl⟩
  rw [← hQ]
  unfold f_X1_hasShade at hF
  refine lv_aload_n hx hb dX1_hasShade_0 rfl (lv_at hl 0 rfl) ?_
  refine lv_iload_n hx hb dX1_hasShade_1 rfl (lv_at hl 1 rfl) ?_
  obtain ⟨r1, hb2, hF⟩ := op_bind hF
  refine xVr (As := [.int u]) (rest := []) hC hP hD hS [0, 1, 2, 3, 4, 5, 6, 7, 8] (c_X1_parasolOf l D cI cC cM aq aqh aqw aqs aqu ap apk apq apr qgone qmet qstill qdone qhour qworn qsquare qunder psq ppa ppe pwo pkind pwsq pwhr u r1 hb2) (cwV 1 hts gX1_hasShade_X1_parasolOf rfl rfl rfl ⟨rfl, pd_X1_parasolOf⟩ ⟨Nat.le_of_ble_eq_true rfl, Nat.le_of_ble_eq_true rfl⟩) rfl rfl 0 1 rfl rfl rfl rfl hl.1 rfl (Nat.le_of_ble_eq_true rfl) dX1_hasShade_2 ⟨Nat.zero_le _, Nat.zero_le _⟩ (fun H locs hP hS => ?_)
  refine lv_istore_n (lv' := [(2, .int r1), (0, .ref aq), (1, .int u)]) hx hb dX1_hasShade_5 rfl hl (by decide) rfl (fun ls hl => ?_)
  refine lv_aload_n hx hb dX1_hasShade_6 rfl (lv_at hl 1 rfl) ?_
  refine lv_iload_n hx hb dX1_hasShade_7 rfl (lv_at hl 2 rfl) ?_
  obtain ⟨r3, hb4, hF⟩ := op_bind hF
  refine xVr (As := [.int u]) (rest := []) hC hP hD hS [0, 1, 2, 3, 4, 5, 6, 7, 8] (c_X1_squareOf l D cI cC cM aq aqh aqw aqs aqu ap apk apq apr qgone qmet qstill qdone qhour qworn qsquare qunder psq ppa ppe pwo pkind pwsq pwhr u r3 hb4) (cwV 1 hts gX1_hasShade_X1_squareOf rfl rfl rfl ⟨rfl, pd_X1_squareOf⟩ ⟨Nat.le_of_ble_eq_true rfl, Nat.le_of_ble_eq_true rfl⟩) rfl rfl 0 1 rfl rfl rfl rfl hl.1 rfl (Nat.le_of_ble_eq_true rfl) dX1_hasShade_8 ⟨Nat.zero_le _, Nat.zero_le _⟩ (fun H locs hP hS => ?_)
  refine lv_if_eq (tgt := 30) hx hb dX1_hasShade_11 (by decide) (fun c5 => ?_) (fun c5 => ?_)
  · have hF := op_pos c5 hF
    refine lv_iconst (v := (1 : Int32)) hx hb dX1_hasShade_30 (by decide) ?_
    refine lv_goto (tgt := 35) hx hb dX1_hasShade_31 (by decide) ?_
    cases hF
    rw [hQ]
    exact xrz hC rfl hP hS dX1_hasShade_35
  · have hF := op_neg c5 hF
    refine lv_iload_n hx hb dX1_hasShade_14 rfl (lv_at hl 0 rfl) ?_
    refine lv_bipush (v := (-4 : Int32)) hx hb dX1_hasShade_15 (by decide) ?_
    refine lv_icmp_eq (tgt := 34) hx hb dX1_hasShade_17 (by decide) (fun c6 => ?_) (fun c6 => ?_)
    · have hF := op_pos c6 hF
      refine lv_iconst (v := (0 : Int32)) hx hb dX1_hasShade_34 (by decide) ?_
      cases hF
      rw [hQ]
      exact xrz hC rfl hP hS dX1_hasShade_35
    · have hF := op_neg c6 hF
      refine lv_aload_n hx hb dX1_hasShade_20 rfl (lv_at hl 1 rfl) ?_
      refine lv_iload_n hx hb dX1_hasShade_21 rfl (lv_at hl 0 rfl) ?_
      obtain ⟨r7, hb8, hF⟩ := op_bind hF
      refine xVr (As := [.int r1]) (rest := []) hC hP hD hS [0, 1, 2, 3, 4, 5, 6, 7, 8] (c_X1_wornOf l D cI cC cM aq aqh aqw aqs aqu ap apk apq apr qgone qmet qstill qdone qhour qworn qsquare qunder psq ppa ppe pwo pkind pwsq pwhr r1 r7 hb8) (cwV 1 hts gX1_hasShade_X1_wornOf rfl rfl rfl ⟨rfl, pd_X1_wornOf⟩ ⟨Nat.le_of_ble_eq_true rfl, Nat.le_of_ble_eq_true rfl⟩) rfl rfl 0 1 rfl rfl rfl rfl hl.1 rfl (Nat.le_of_ble_eq_true rfl) dX1_hasShade_22 ⟨Nat.zero_le _, Nat.zero_le _⟩ (fun H locs hP hS => ?_)
      refine lv_bipush (v := (12 : Int32)) hx hb dX1_hasShade_25 (by decide) ?_
      refine lv_icmp_gt (tgt := 34) hx hb dX1_hasShade_27 (by decide) (fun c9 => ?_) (fun c9 => ?_)
      · have hF := op_pos c9 hF
        refine lv_iconst (v := (0 : Int32)) hx hb dX1_hasShade_34 (by decide) ?_
        cases hF
        rw [hQ]
        exact xrz hC rfl hP hS dX1_hasShade_35
      · have hF := op_neg c9 hF
        refine lv_iconst (v := (1 : Int32)) hx hb dX1_hasShade_30 (by decide) ?_
        refine lv_goto (tgt := 35) hx hb dX1_hasShade_31 (by decide) ?_
        cases hF
        rw [hQ]
        exact xrz hC rfl hP hS dX1_hasShade_35

def f_X1_timeOf (qhour : (Nat → Int32)) (qworn : (Nat → Int32)) (qsquare : (Nat → Int32)) (i : Int32) (u : Int32) : Option Int32 := (if u = (-4 : Int32) then (Option.bind (f_X1_squareOf qsquare i) fun r7 => (if r7 = 0 then (some (-4 : Int32)) else (some (12 : Int32)))) else (Option.bind (f_X1_wornOf qworn u) fun r2 => (if (12 : Int32) < r2 then (some (12 : Int32)) else (Option.bind (f_X1_hourOf qhour u) fun r5 => (some r5)))))

def rm_X1_timeOf : Room := { frames := 2, cells := 0, slots := 0, locals := 42 }

theorem pd_X1_timeOf : yX1_timeOf.cls ≠ "java/lang/invoke/MethodHandle" ∧ yX1_timeOf.cls ≠ "java/lang/invoke/VarHandle" ∧ (parseMethodDescriptor yX1_timeOf.desc).map (fun d => d.parameters.length) = some 2 := by decide +kernel

set_option maxHeartbeats 4000000 in
set_option maxRecDepth 100000 in
theorem c_X1_timeOf (l : Launch) (D : va_G) (cI cC cM : ClassId) (aq aqh aqw aqs aqu ap apk apq apr : Nat) (qgone : Int32) (qmet : Int32) (qstill : Int32) (qdone : Int32) (qhour : (Nat → Int32)) (qworn : (Nat → Int32)) (qsquare : (Nat → Int32)) (qunder : (Nat → Int32)) (psq : Int32) (ppa : Int32) (ppe : Int32) (pwo : Int32) (pkind : (Nat → Int32)) (pwsq : (Nat → Int32)) (pwhr : (Nat → Int32)) (i : Int32) (u : Int32) (rr : Int32) (hF : f_X1_timeOf qhour qworn qsquare i u = some rr) : CI l D cI cC cM yX1_timeOf wsX1_timeOf rm_X1_timeOf [.ref aq, .int i, .int u] [(aq, .inr (1, [.ref ap, .int qgone, .int qmet, .int qstill, .int qdone, .ref aqh, .ref aqw, .ref aqs, .ref aqu])), (aqh, .inl (cI, 6, .inl qhour)), (aqw, .inl (cI, 6, .inl qworn)), (aqs, .inl (cI, 5, .inl qsquare)), (aqu, .inl (cI, 5, .inl qunder)), (ap, .inr (2, [.int psq, .int ppa, .int ppe, .int pwo, .ref apk, .ref apq, .ref apr])), (apk, .inl (cI, 6, .inl pkind)), (apq, .inl (cI, 6, .inl pwsq)), (apr, .inl (cI, 6, .inl pwhr))] [(aq, .inr (1, [.ref ap, .int qgone, .int qmet, .int qstill, .int qdone, .ref aqh, .ref aqw, .ref aqs, .ref aqu])), (aqh, .inl (cI, 6, .inl qhour)), (aqw, .inl (cI, 6, .inl qworn)), (aqs, .inl (cI, 5, .inl qsquare)), (aqu, .inl (cI, 5, .inl qunder)), (ap, .inr (2, [.int psq, .int ppa, .int ppe, .int pwo, .ref apk, .ref apq, .ref apr])), (apk, .inl (cI, 6, .inl pkind)), (apq, .inl (cI, 6, .inl pwsq)), (apr, .inl (cI, 6, .inl pwhr))] rr := by
  refine CI.of (cc := cX1_timeOf) (nL := 3) (ret := (some .int)) (by decide) rfl (Nat.le_of_ble_eq_true rfl) ?_
  intro p e s m args below meth c A hC hP hD hS ls hl
  obtain ⟨hx, hb, hml, hown, hts, hr, hlk, hG, hA⟩ := id hC
  have hown : s.vm.findClass RX1 = some m.cls := hown
  have hK := hG.1
  have hl : lv_has ls 3 [(0, .ref aq), (1, .int i), (2, .int u)] := hl
  obtain ⟨Q, hQ⟩ : ∃ Q, Q = MQ below (QI D [(aq, .inr (1, [.ref ap, .int qgone, .int qmet, .int qstill, .int qdone, .ref aqh, .ref aqw, .ref aqs, .ref aqu])), (aqh, .inl (cI, 6, .inl qhour)), (aqw, .inl (cI, 6, .inl qworn)), (aqs, .inl (cI, 5, .inl qsquare)), (aqu, .inl (cI, 5, .inl qunder)), (ap, .inr (2, [.int psq, .int ppa, .int ppe, .int pwo, .ref apk, .ref apq, .ref apr])), (apk, .inl (cI, 6, .inl pkind)), (apq, .inl (cI, 6, .inl pwsq)), (apr, .inl (cI, 6, .inl pwhr))] rr A) args s 0 0 A := ⟨_, rfl⟩
  rw [← hQ]
  unfold f_X1_timeOf at hF
  refine lv_iload_n hx hb dX1_timeOf_0 rfl (lv_at hl 2 rfl) ?_
  refine lv_bipush (v := (-4 : Int32)) hx hb dX1_timeOf_1 (by decide) ?_
  refine lv_icmp_ne (tgt := 22) hx hb dX1_timeOf_3 (by decide) (fun c1 => ?_) (fun c1 => ?_)
  · have hF := op_neg c1 hF
    refine lv_aload_n hx hb dX1_timeOf_22 rfl (lv_at hl 0 rfl) ?_
    refine lv_iload_n hx hb dX1_timeOf_23 rfl (lv_at hl 2 rfl) ?_
    obtain ⟨r2, hb3, hF⟩ := op_bind hF
    refine xVr (As := [.int u]) (rest := []) hC hP hD hS [0, 1, 2, 3, 4, 5, 6, 7, 8] (c_X1_wornOf l D cI cC cM aq aqh aqw aqs aqu ap apk apq apr qgone qmet qstill qdone qhour qworn qsquare qunder psq ppa ppe pwo pkind pwsq pwhr u r2 hb3) (cwV 1 hts gX1_timeOf_X1_wornOf rfl rfl rfl ⟨rfl, pd_X1_wornOf⟩ ⟨Nat.le_of_ble_eq_true rfl, Nat.le_of_ble_eq_true rfl⟩) rfl rfl 0 1 rfl rfl rfl rfl hl.1 rfl (Nat.le_of_ble_eq_true rfl) dX1_timeOf_24 ⟨Nat.zero_le _, Nat.zero_le _⟩ (fun H locs hP hS => ?_)
    refine lv_bipush (v := (12 : Int32)) hx hb dX1_timeOf_27 (by decide) ?_
    refine lv_icmp_gt (tgt := 40) hx hb dX1_timeOf_29 (by decide) (fun c4 => ?_) (fun c4 => ?_)
    · have hF := op_pos c4 hF
      refine lv_bipush (v := (12 : Int32)) hx hb dX1_timeOf_40 (by decide) ?_
      cases hF
      rw [hQ]
      exact xri hC hP hS dX1_timeOf_42
    · have hF := op_neg c4 hF
      refine lv_aload_n hx hb dX1_timeOf_32 rfl (lv_at hl 0 rfl) ?_
      refine lv_iload_n hx hb dX1_timeOf_33 rfl (lv_at hl 2 rfl) ?_
      obtain ⟨r5, hb6, hF⟩ := op_bind hF
      refine xVr (As := [.int u]) (rest := []) hC hP hD hS [0, 1, 2, 3, 4, 5, 6, 7, 8] (c_X1_hourOf l D cI cC cM aq aqh aqw aqs aqu ap apk apq apr qgone qmet qstill qdone qhour qworn qsquare qunder psq ppa ppe pwo pkind pwsq pwhr u r5 hb6) (cwV 1 hts gX1_timeOf_X1_hourOf rfl rfl rfl ⟨rfl, pd_X1_hourOf⟩ ⟨Nat.le_of_ble_eq_true rfl, Nat.le_of_ble_eq_true rfl⟩) rfl rfl 0 1 rfl rfl rfl rfl hl.1 rfl (Nat.le_of_ble_eq_true rfl) dX1_timeOf_34 ⟨Nat.zero_le _, Nat.zero_le _⟩ (fun H locs hP hS => ?_)
      refine lv_goto (tgt := 42) hx hb dX1_timeOf_37 (by decide) ?_
      cases hF
      rw [hQ]
      exact xri hC hP hS dX1_timeOf_42
  · have hF := op_pos c1 hF
    refine lv_aload_n hx hb dX1_timeOf_6 rfl (lv_at hl 0 rfl) ?_
    refine lv_iload_n hx hb dX1_timeOf_7 rfl (lv_at hl 1 rfl) ?_
    obtain ⟨r7, hb8, hF⟩ := op_bind hF
    refine xVr (As := [.int i]) (rest := []) hC hP hD hS [0, 1, 2, 3, 4, 5, 6, 7, 8] (c_X1_squareOf l D cI cC cM aq aqh aqw aqs aqu ap apk apq apr qgone qmet qstill qdone qhour qworn qsquare qunder psq ppa ppe pwo pkind pwsq pwhr i r7 hb8) (cwV 1 hts gX1_timeOf_X1_squareOf rfl rfl rfl ⟨rfl, pd_X1_squareOf⟩ ⟨Nat.le_of_ble_eq_true rfl, Nat.le_of_ble_eq_true rfl⟩) rfl rfl 0 1 rfl rfl rfl rfl hl.1 rfl (Nat.le_of_ble_eq_true rfl) dX1_timeOf_8 ⟨Nat.zero_le _, Nat.zero_le _⟩ (fun H locs hP hS => ?_)
    refine lv_if_ne (tgt := 19) hx hb dX1_timeOf_11 (by decide) (fun c9 => ?_) (fun c9 => ?_)
    · have hF := op_neg c9 hF
      refine lv_bipush (v := (12 : Int32)) hx hb dX1_timeOf_19 (by decide) ?_
      cases hF
      rw [hQ]
      exact xri hC hP hS dX1_timeOf_21
    · have hF := op_pos c9 hF
      refine lv_bipush (v := (-4 : Int32)) hx hb dX1_timeOf_14 (by decide) ?_
      refine lv_goto (tgt := 21) hx hb dX1_timeOf_16 (by decide) ?_
      cases hF
      rw [hQ]
      exact xri hC hP hS dX1_timeOf_21

def f_X1_worksOf_L13 (pwo : Int32) (pwsq : (Nat → Int32)) (qsquare : (Nat → Int32)) (i : Int32) (pwhr : (Nat → Int32)) (r1 : Int32) (qdone : Int32) (k13 : Int32 → Int32 → Option Int32) : Nat → Int32 → Int32 → Option Int32
  | 0, _, _ => none
  | nf13 + 1, v3, v4 => (if pwo ≤ v4 then (k13 v3 v4) else (Option.bind (f_X2_workSquareOf pwsq v4) fun r6 => (Option.bind (f_X1_squareOf qsquare i) fun r8 => (if r6 = r8 then (Option.bind (f_X2_workHourOf pwhr v4) fun r11 => (if r11 = r1 then (Option.bind (f_X1_isDone qdone v4) fun r14 => (if r14 = 0 then (f_X1_worksOf_L13 pwo pwsq qsquare i pwhr r1 qdone k13 nf13 (v3 ||| ((1 : Int32) <<< (v4 &&& 31))) (v4 + (1 : Int32))) else (f_X1_worksOf_L13 pwo pwsq qsquare i pwhr r1 qdone k13 nf13 v3 (v4 + (1 : Int32))))) else (f_X1_worksOf_L13 pwo pwsq qsquare i pwhr r1 qdone k13 nf13 v3 (v4 + (1 : Int32))))) else (f_X1_worksOf_L13 pwo pwsq qsquare i pwhr r1 qdone k13 nf13 v3 (v4 + (1 : Int32)))))))
theorem f_X1_worksOf_L13_0 (pwo : Int32) (pwsq : (Nat → Int32)) (qsquare : (Nat → Int32)) (i : Int32) (pwhr : (Nat → Int32)) (r1 : Int32) (qdone : Int32) (k13 : Int32 → Int32 → Option Int32) (v3 : Int32) (v4 : Int32) : f_X1_worksOf_L13 pwo pwsq qsquare i pwhr r1 qdone k13 0 v3 v4 = none := rfl
theorem f_X1_worksOf_L13_s (pwo : Int32) (pwsq : (Nat → Int32)) (qsquare : (Nat → Int32)) (i : Int32) (pwhr : (Nat → Int32)) (r1 : Int32) (qdone : Int32) (k13 : Int32 → Int32 → Option Int32) (nf13 : Nat) (v3 : Int32) (v4 : Int32) : f_X1_worksOf_L13 pwo pwsq qsquare i pwhr r1 qdone k13 (nf13 + 1) v3 v4 = (if pwo ≤ v4 then (k13 v3 v4) else (Option.bind (f_X2_workSquareOf pwsq v4) fun r6 => (Option.bind (f_X1_squareOf qsquare i) fun r8 => (if r6 = r8 then (Option.bind (f_X2_workHourOf pwhr v4) fun r11 => (if r11 = r1 then (Option.bind (f_X1_isDone qdone v4) fun r14 => (if r14 = 0 then (f_X1_worksOf_L13 pwo pwsq qsquare i pwhr r1 qdone k13 nf13 (v3 ||| ((1 : Int32) <<< (v4 &&& 31))) (v4 + (1 : Int32))) else (f_X1_worksOf_L13 pwo pwsq qsquare i pwhr r1 qdone k13 nf13 v3 (v4 + (1 : Int32))))) else (f_X1_worksOf_L13 pwo pwsq qsquare i pwhr r1 qdone k13 nf13 v3 (v4 + (1 : Int32))))) else (f_X1_worksOf_L13 pwo pwsq qsquare i pwhr r1 qdone k13 nf13 v3 (v4 + (1 : Int32))))))) := rfl

def f_X1_worksOf (qdone : Int32) (qhour : (Nat → Int32)) (qworn : (Nat → Int32)) (qsquare : (Nat → Int32)) (pwo : Int32) (pwsq : (Nat → Int32)) (pwhr : (Nat → Int32)) (i : Int32) (u : Int32) : Option Int32 := (Option.bind (f_X1_timeOf qhour qworn qsquare i u) fun r1 => (f_X1_worksOf_L13 pwo pwsq qsquare i pwhr r1 qdone (fun (v3 : Int32) (v4 : Int32) => (some v3)) 20000 (0 : Int32) (0 : Int32)))

def rm_X1_worksOf : Room := { frames := 3, cells := 0, slots := 0, locals := 64 }

theorem pd_X1_worksOf : yX1_worksOf.cls ≠ "java/lang/invoke/MethodHandle" ∧ yX1_worksOf.cls ≠ "java/lang/invoke/VarHandle" ∧ (parseMethodDescriptor yX1_worksOf.desc).map (fun d => d.parameters.length) = some 2 := by decide +kernel

set_option maxHeartbeats 4000000 in
set_option maxRecDepth 100000 in
theorem c_X1_worksOf (l : Launch) (D : va_G) (cI cC cM : ClassId) (aq aqh aqw aqs aqu ap apk apq apr : Nat) (qgone : Int32) (qmet : Int32) (qstill : Int32) (qdone : Int32) (qhour : (Nat → Int32)) (qworn : (Nat → Int32)) (qsquare : (Nat → Int32)) (qunder : (Nat → Int32)) (psq : Int32) (ppa : Int32) (ppe : Int32) (pwo : Int32) (pkind : (Nat → Int32)) (pwsq : (Nat → Int32)) (pwhr : (Nat → Int32)) (i : Int32) (u : Int32) (rr : Int32) (hF : f_X1_worksOf qdone qhour qworn qsquare pwo pwsq pwhr i u = some rr) : CI l D cI cC cM yX1_worksOf wsX1_worksOf rm_X1_worksOf [.ref aq, .int i, .int u] [(aq, .inr (1, [.ref ap, .int qgone, .int qmet, .int qstill, .int qdone, .ref aqh, .ref aqw, .ref aqs, .ref aqu])), (aqh, .inl (cI, 6, .inl qhour)), (aqw, .inl (cI, 6, .inl qworn)), (aqs, .inl (cI, 5, .inl qsquare)), (aqu, .inl (cI, 5, .inl qunder)), (ap, .inr (2, [.int psq, .int ppa, .int ppe, .int pwo, .ref apk, .ref apq, .ref apr])), (apk, .inl (cI, 6, .inl pkind)), (apq, .inl (cI, 6, .inl pwsq)), (apr, .inl (cI, 6, .inl pwhr))] [(aq, .inr (1, [.ref ap, .int qgone, .int qmet, .int qstill, .int qdone, .ref aqh, .ref aqw, .ref aqs, .ref aqu])), (aqh, .inl (cI, 6, .inl qhour)), (aqw, .inl (cI, 6, .inl qworn)), (aqs, .inl (cI, 5, .inl qsquare)), (aqu, .inl (cI, 5, .inl qunder)), (ap, .inr (2, [.int psq, .int ppa, .int ppe, .int pwo, .ref apk, .ref apq, .ref apr])), (apk, .inl (cI, 6, .inl pkind)), (apq, .inl (cI, 6, .inl pwsq)), (apr, .inl (cI, 6, .inl pwhr))] rr := by
  refine CI.of (cc := cX1_worksOf) (nL := 7) (ret := (some .int)) (by decide) rfl (Nat.le_of_ble_eq_true rfl) ?_
  intro p e s m args below meth c A hC hP hD hS ls hl
  obtain ⟨hx, hb, hml, hown, hts, hr, hlk, hG, hA⟩ := id hC
  have hown : s.vm.findClass RX1 = some m.cls := hown
  have hK := hG.1
  have hl : lv_has ls 7 [(0, .ref aq), (1, .int i), (2, .int u)] := hl
  have k_f24 := hts (.fieldLink RX1 24 "ParasolHours$Moment" "plan" "LParasolHours$Plan;") (List.mem_of_getElem? (i := 1) rfl)
  have k_f85 := hts (.fieldLink RX1 85 "ParasolHours$Plan" "works" "I") (List.mem_of_getElem? (i := 2) rfl)
  have iX1 : ∀ w ∈ wsX10, w ∈ wsX1_worksOf := by decide +kernel
  have iX2 : ∀ w ∈ wsX20, w ∈ wsX1_worksOf := by decide +kernel
  obtain ⟨Q, hQ⟩ : ∃ Q, Q = MQ below (QI D [(aq, .inr (1, [.ref ap, .int qgone, .int qmet, .int qstill, .int qdone, .ref aqh, .ref aqw, .ref aqs, .ref aqu])), (aqh, .inl (cI, 6, .inl qhour)), (aqw, .inl (cI, 6, .inl qworn)), (aqs, .inl (cI, 5, .inl qsquare)), (aqu, .inl (cI, 5, .inl qunder)), (ap, .inr (2, [.int psq, .int ppa, .int ppe, .int pwo, .ref apk, .ref apq, .ref apr])), (apk, .inl (cI, 6, .inl pkind)), (apq, .inl (cI, 6, .inl pwsq)), (apr, .inl (cI, 6, .inl pwhr))] rr A) args s 0 0 A := ⟨_, rfl⟩
  rw [← hQ]
  unfold f_X1_worksOf at hF
  refine lv_aload_n hx hb dX1_worksOf_0 rfl (lv_at hl 0 rfl) ?_
  refine lv_iload_n hx hb dX1_worksOf_1 rfl (lv_at hl 1 rfl) ?_
  refine lv_iload_n hx hb dX1_worksOf_2 rfl (lv_at hl 2 rfl) ?_
  obtain ⟨r1, hb2, hF⟩ := op_bind hF
  refine xVr (As := [.int i, .int u]) (rest := []) hC hP hD hS [0, 1, 2, 3, 4, 5, 6, 7, 8] (c_X1_timeOf l D cI cC cM aq aqh aqw aqs aqu ap apk apq apr qgone qmet qstill qdone qhour qworn qsquare qunder psq ppa ppe pwo pkind pwsq pwhr i u r1 hb2) (cwV 2 hts gX1_worksOf_X1_timeOf rfl rfl rfl ⟨rfl, pd_X1_timeOf⟩ ⟨Nat.le_of_ble_eq_true rfl, Nat.le_of_ble_eq_true rfl⟩) rfl rfl 0 1 rfl rfl rfl rfl hl.1 rfl (Nat.le_of_ble_eq_true rfl) dX1_worksOf_3 ⟨Nat.zero_le _, Nat.zero_le _⟩ (fun H locs hP hS => ?_)
  refine lv_istore_n (lv' := [(3, .int r1), (0, .ref aq), (1, .int i), (2, .int u)]) hx hb dX1_worksOf_6 rfl hl (by decide) rfl (fun ls hl => ?_)
  refine lv_iconst (v := (0 : Int32)) hx hb dX1_worksOf_7 (by decide) ?_
  refine lv_istore (lv' := [(4, .int (0 : Int32)), (3, .int r1), (0, .ref aq), (1, .int i), (2, .int u)]) hx hb dX1_worksOf_8 hl (by decide) rfl (fun ls hl => ?_)
  refine lv_iconst (v := (0 : Int32)) hx hb dX1_worksOf_10 (by decide) ?_
  refine lv_istore (lv' := [(5, .int (0 : Int32)), (4, .int (0 : Int32)), (3, .int r1), (0, .ref aq), (1, .int i), (2, .int u)]) hx hb dX1_worksOf_11 hl (by decide) rfl (fun ls hl => ?_)
  have hL13 : ∀ (k13 : Int32 → Int32 → Option Int32), (∀ (v3 : Int32) (v4 : Int32) (H : Heap) (locs : List Loc), va_P D vwCl [(aq, .inr (1, [.ref ap, .int qgone, .int qmet, .int qstill, .int qdone, .ref aqh, .ref aqw, .ref aqs, .ref aqu])), (aqh, .inl (cI, 6, .inl qhour)), (aqw, .inl (cI, 6, .inl qworn)), (aqs, .inl (cI, 5, .inl qsquare)), (aqu, .inl (cI, 5, .inl qunder)), (ap, .inr (2, [.int psq, .int ppa, .int ppe, .int pwo, .ref apk, .ref apq, .ref apr])), (apk, .inl (cI, 6, .inl pkind)), (apq, .inl (cI, 6, .inl pwsq)), (apr, .inl (cI, 6, .inl pwhr))] H → va_D A [(aq, .inr (1, [.ref ap, .int qgone, .int qmet, .int qstill, .int qdone, .ref aqh, .ref aqw, .ref aqs, .ref aqu])), (aqh, .inl (cI, 6, .inl qhour)), (aqw, .inl (cI, 6, .inl qworn)), (aqs, .inl (cI, 5, .inl qsquare)), (aqu, .inl (cI, 5, .inl qunder)), (ap, .inr (2, [.int psq, .int ppa, .int ppe, .int pwo, .ref apk, .ref apq, .ref apr])), (apk, .inl (cI, 6, .inl pkind)), (apq, .inl (cI, 6, .inl pwsq)), (apr, .inl (cI, 6, .inl pwhr))] → va_S A s.heap H locs → ∀ ls : Array Slot, lv_has ls 7 [(4, .int v3)] → k13 v3 v4 = some rr → W p l e rm_X1_worksOf s m args below meth c H locs 0 0 Q (F0 m 91 ls [])) → ∀ (nf13 : Nat) (v3 : Int32) (v4 : Int32) (H : Heap) (locs : List Loc), va_P D vwCl [(aq, .inr (1, [.ref ap, .int qgone, .int qmet, .int qstill, .int qdone, .ref aqh, .ref aqw, .ref aqs, .ref aqu])), (aqh, .inl (cI, 6, .inl qhour)), (aqw, .inl (cI, 6, .inl qworn)), (aqs, .inl (cI, 5, .inl qsquare)), (aqu, .inl (cI, 5, .inl qunder)), (ap, .inr (2, [.int psq, .int ppa, .int ppe, .int pwo, .ref apk, .ref apq, .ref apr])), (apk, .inl (cI, 6, .inl pkind)), (apq, .inl (cI, 6, .inl pwsq)), (apr, .inl (cI, 6, .inl pwhr))] H → va_D A [(aq, .inr (1, [.ref ap, .int qgone, .int qmet, .int qstill, .int qdone, .ref aqh, .ref aqw, .ref aqs, .ref aqu])), (aqh, .inl (cI, 6, .inl qhour)), (aqw, .inl (cI, 6, .inl qworn)), (aqs, .inl (cI, 5, .inl qsquare)), (aqu, .inl (cI, 5, .inl qunder)), (ap, .inr (2, [.int psq, .int ppa, .int ppe, .int pwo, .ref apk, .ref apq, .ref apr])), (apk, .inl (cI, 6, .inl pkind)), (apq, .inl (cI, 6, .inl pwsq)), (apr, .inl (cI, 6, .inl pwhr))] → va_S A s.heap H locs → ∀ ls : Array Slot, lv_has ls 7 [(5, .int v4), (4, .int v3), (3, .int r1), (0, .ref aq), (1, .int i)] → f_X1_worksOf_L13 pwo pwsq qsquare i pwhr r1 qdone k13 nf13 v3 v4 = some rr → W p l e rm_X1_worksOf s m args below meth c H locs 0 0 Q (F0 m 13 ls []) := by
    intro k13 hk13 nf13
    induction nf13 with
    | zero =>
      intro v3 v4 H locs hP hD hS ls hl hF
      rw [f_X1_worksOf_L13_0] at hF
      cases hF
    | succ nf13 ih13 =>
      intro v3 v4 H locs hP hD hS ls hl hF
      rw [f_X1_worksOf_L13_s] at hF
      refine lv_iload hx hb dX1_worksOf_13 (lv_at hl 0 rfl) ?_
      refine lv_aload_n hx hb dX1_worksOf_15 rfl (lv_at hl 3 rfl) ?_
      refine va_get (D := D) (ci := 1) (v := .ref ap) (C := RX1) (T := TX1) (N := 9) hx hb hts iX1 hown hK hP 0 rfl rfl 0 (by decide) k_f24 (fun _ h9 => h9) rfl dX1_worksOf_16 ?_
      refine va_get (D := D) (ci := 2) (v := .int pwo) (C := RX2) (T := TX2) (N := 7) hx hb hts iX2 hown hK hP 5 rfl rfl 3 (by decide) k_f85 (fun _ h9 => h9) rfl dX1_worksOf_19 ?_
      refine lv_icmp_ge (tgt := 91) hx hb dX1_worksOf_22 (by decide) (fun c5 => ?_) (fun c5 => ?_)
      · have hF := op_pos c5 hF
        exact hk13 v3 v4 _ _ hP hD hS _ (lv_sub hl [1] rfl) hF
      · have hF := op_neg c5 hF
        refine lv_aload_n hx hb dX1_worksOf_25 rfl (lv_at hl 3 rfl) ?_
        refine va_get (D := D) (ci := 1) (v := .ref ap) (C := RX1) (T := TX1) (N := 9) hx hb hts iX1 hown hK hP 0 rfl rfl 0 (by decide) k_f24 (fun _ h9 => h9) rfl dX1_worksOf_26 ?_
        refine lv_iload hx hb dX1_worksOf_29 (lv_at hl 0 rfl) ?_
        obtain ⟨r6, hb7, hF⟩ := op_bind hF
        refine xVr (As := [.int v4]) (rest := []) hC hP hD hS [5, 6, 7, 8] (c_X2_workSquareOf l D cI cC cM ap apk apq apr psq ppa ppe pwo pkind pwsq pwhr v4 r6 hb7) (cwV 1 hts gX1_worksOf_X2_workSquareOf rfl rfl rfl ⟨rfl, pd_X2_workSquareOf⟩ ⟨Nat.le_of_ble_eq_true rfl, Nat.le_of_ble_eq_true rfl⟩) rfl rfl 5 2 rfl rfl rfl rfl hl.1 rfl (Nat.le_of_ble_eq_true rfl) dX1_worksOf_31 ⟨Nat.zero_le _, Nat.zero_le _⟩ (fun H locs hP hS => ?_)
        refine lv_aload_n hx hb dX1_worksOf_34 rfl (lv_at hl 3 rfl) ?_
        refine lv_iload_n hx hb dX1_worksOf_35 rfl (lv_at hl 4 rfl) ?_
        obtain ⟨r8, hb9, hF⟩ := op_bind hF
        refine xVr (As := [.int i]) (rest := [.int r6]) hC hP hD hS [0, 1, 2, 3, 4, 5, 6, 7, 8] (c_X1_squareOf l D cI cC cM aq aqh aqw aqs aqu ap apk apq apr qgone qmet qstill qdone qhour qworn qsquare qunder psq ppa ppe pwo pkind pwsq pwhr i r8 hb9) (cwV 1 hts gX1_worksOf_X1_squareOf rfl rfl rfl ⟨rfl, pd_X1_squareOf⟩ ⟨Nat.le_of_ble_eq_true rfl, Nat.le_of_ble_eq_true rfl⟩) rfl rfl 0 1 rfl rfl rfl rfl hl.1 rfl (Nat.le_of_ble_eq_true rfl) dX1_worksOf_36 ⟨Nat.zero_le _, Nat.zero_le _⟩ (fun H locs hP hS => ?_)
        refine lv_icmp_ne (tgt := 46) hx hb dX1_worksOf_39 (by decide) (fun c10 => ?_) (fun c10 => ?_)
        · have hF := op_neg c10 hF
          refine lv_iconst (v := (0 : Int32)) hx hb dX1_worksOf_46 (by decide) ?_
          refine lv_istore (lv' := [(6, .int (0 : Int32)), (5, .int v4), (4, .int v3), (3, .int r1), (0, .ref aq), (1, .int i)]) hx hb dX1_worksOf_47 hl (by decide) rfl (fun ls hl => ?_)
          refine lv_iload hx hb dX1_worksOf_49 (lv_at hl 0 rfl) ?_
          refine lv_if_eq (tgt := 85) hx hb dX1_worksOf_51 (by decide) (fun _ => ?_) (fun c => absurd (by decide) c)
          refine lv_iinc (v := (v4 + (1 : Int32))) (lv' := [(5, .int (v4 + (1 : Int32))), (6, .int (0 : Int32)), (4, .int v3), (3, .int r1), (0, .ref aq), (1, .int i)]) hx hb dX1_worksOf_85 hl (k := 1) rfl (by first | rfl | decide) (by decide) rfl (fun ls hl => ?_)
          refine lv_goto (tgt := 13) hx hb dX1_worksOf_88 (by decide) ?_
          exact ih13 v3 (v4 + (1 : Int32)) _ _ hP hD hS _ (lv_sub hl [0, 2, 3, 4, 5] rfl) hF
        · have hF := op_pos c10 hF
          refine lv_iconst (v := (1 : Int32)) hx hb dX1_worksOf_42 (by decide) ?_
          refine lv_goto (tgt := 47) hx hb dX1_worksOf_43 (by decide) ?_
          refine lv_istore (lv' := [(6, .int (1 : Int32)), (5, .int v4), (4, .int v3), (3, .int r1), (0, .ref aq), (1, .int i)]) hx hb dX1_worksOf_47 hl (by decide) rfl (fun ls hl => ?_)
          refine lv_iload hx hb dX1_worksOf_49 (lv_at hl 0 rfl) ?_
          refine lv_if_eq (tgt := 85) hx hb dX1_worksOf_51 (by decide) (fun c => absurd c (by decide)) (fun _ => ?_)
          refine lv_aload_n hx hb dX1_worksOf_54 rfl (lv_at hl 4 rfl) ?_
          refine va_get (D := D) (ci := 1) (v := .ref ap) (C := RX1) (T := TX1) (N := 9) hx hb hts iX1 hown hK hP 0 rfl rfl 0 (by decide) k_f24 (fun _ h9 => h9) rfl dX1_worksOf_55 ?_
          refine lv_iload hx hb dX1_worksOf_58 (lv_at hl 1 rfl) ?_
          obtain ⟨r11, hb12, hF⟩ := op_bind hF
          refine xVr (As := [.int v4]) (rest := []) hC hP hD hS [5, 6, 7, 8] (c_X2_workHourOf l D cI cC cM ap apk apq apr psq ppa ppe pwo pkind pwsq pwhr v4 r11 hb12) (cwV 1 hts gX1_worksOf_X2_workHourOf rfl rfl rfl ⟨rfl, pd_X2_workHourOf⟩ ⟨Nat.le_of_ble_eq_true rfl, Nat.le_of_ble_eq_true rfl⟩) rfl rfl 5 2 rfl rfl rfl rfl hl.1 rfl (Nat.le_of_ble_eq_true rfl) dX1_worksOf_60 ⟨Nat.zero_le _, Nat.zero_le _⟩ (fun H locs hP hS => ?_)
          refine lv_iload_n hx hb dX1_worksOf_63 rfl (lv_at hl 3 rfl) ?_
          refine lv_icmp_ne (tgt := 85) hx hb dX1_worksOf_64 (by decide) (fun c13 => ?_) (fun c13 => ?_)
          · have hF := op_neg c13 hF
            refine lv_iinc (v := (v4 + (1 : Int32))) (lv' := [(5, .int (v4 + (1 : Int32))), (6, .int (1 : Int32)), (4, .int v3), (3, .int r1), (0, .ref aq), (1, .int i)]) hx hb dX1_worksOf_85 hl (k := 1) rfl (by first | rfl | decide) (by decide) rfl (fun ls hl => ?_)
            refine lv_goto (tgt := 13) hx hb dX1_worksOf_88 (by decide) ?_
            exact ih13 v3 (v4 + (1 : Int32)) _ _ hP hD hS _ (lv_sub hl [0, 2, 3, 4, 5] rfl) hF
          · have hF := op_pos c13 hF
            refine lv_aload_n hx hb dX1_worksOf_67 rfl (lv_at hl 4 rfl) ?_
            refine lv_iload hx hb dX1_worksOf_68 (lv_at hl 1 rfl) ?_
            obtain ⟨r14, hb15, hF⟩ := op_bind hF
            refine xVr (As := [.int v4]) (rest := []) hC hP hD hS [0, 1, 2, 3, 4, 5, 6, 7, 8] (c_X1_isDone l D cI cC cM aq aqh aqw aqs aqu ap apk apq apr qgone qmet qstill qdone qhour qworn qsquare qunder psq ppa ppe pwo pkind pwsq pwhr v4 r14 hb15) (cwV 1 hts gX1_worksOf_X1_isDone rfl rfl rfl ⟨rfl, pd_X1_isDone⟩ ⟨Nat.le_of_ble_eq_true rfl, Nat.le_of_ble_eq_true rfl⟩) rfl rfl 0 1 rfl rfl rfl rfl hl.1 rfl (Nat.le_of_ble_eq_true rfl) dX1_worksOf_70 ⟨Nat.zero_le _, Nat.zero_le _⟩ (fun H locs hP hS => ?_)
            refine lv_if_ne (tgt := 85) hx hb dX1_worksOf_73 (by decide) (fun c16 => ?_) (fun c16 => ?_)
            · have hF := op_neg c16 hF
              refine lv_iinc (v := (v4 + (1 : Int32))) (lv' := [(5, .int (v4 + (1 : Int32))), (6, .int (1 : Int32)), (4, .int v3), (3, .int r1), (0, .ref aq), (1, .int i)]) hx hb dX1_worksOf_85 hl (k := 1) rfl (by first | rfl | decide) (by decide) rfl (fun ls hl => ?_)
              refine lv_goto (tgt := 13) hx hb dX1_worksOf_88 (by decide) ?_
              exact ih13 v3 (v4 + (1 : Int32)) _ _ hP hD hS _ (lv_sub hl [0, 2, 3, 4, 5] rfl) hF
            · have hF := op_pos c16 hF
              refine lv_iload hx hb dX1_worksOf_76 (lv_at hl 2 rfl) ?_
              refine lv_iconst (v := (1 : Int32)) hx hb dX1_worksOf_78 (by decide) ?_
              refine lv_iload hx hb dX1_worksOf_79 (lv_at hl 1 rfl) ?_
              refine lv_ishl hx hb dX1_worksOf_81 ?_
              refine lv_ior hx hb dX1_worksOf_82 ?_
              refine lv_istore (lv' := [(4, .int (v3 ||| ((1 : Int32) <<< (v4 &&& 31)))), (6, .int (1 : Int32)), (5, .int v4), (3, .int r1), (0, .ref aq), (1, .int i)]) hx hb dX1_worksOf_83 hl (by decide) rfl (fun ls hl => ?_)
              refine lv_iinc (v := (v4 + (1 : Int32))) (lv' := [(5, .int (v4 + (1 : Int32))), (4, .int (v3 ||| ((1 : Int32) <<< (v4 &&& 31)))), (6, .int (1 : Int32)), (3, .int r1), (0, .ref aq), (1, .int i)]) hx hb dX1_worksOf_85 hl (k := 2) rfl (by first | rfl | decide) (by decide) rfl (fun ls hl => ?_)
              refine lv_goto (tgt := 13) hx hb dX1_worksOf_88 (by decide) ?_
              exact ih13 (v3 ||| ((1 : Int32) <<< (v4 &&& 31))) (v4 + (1 : Int32)) _ _ hP hD hS _ (lv_sub hl [0, 1, 3, 4, 5] rfl) hF
  refine hL13 _ (fun v3 v4 H locs hP hD hS ls hl hF => ?_) 20000 (0 : Int32) (0 : Int32) _ _ hP hD hS _ (lv_sub hl [0, 1, 2, 3, 4] rfl) hF
  refine lv_iload hx hb dX1_worksOf_91 (lv_at hl 0 rfl) ?_
  cases hF
  rw [hQ]
  exact xri hC hP hS dX1_worksOf_93
