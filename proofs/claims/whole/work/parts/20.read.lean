def f_X3_clear (rmunder : (Nat → Int32)) : Option (Int32 × Int32 × Int32 × Int32 × Int32 × Int32 × Int32 × Int32 × (Nat → Int32)) := (Option.bind (f_X1_clear rmunder) fun (qgone_1, qmet_2, qstill_3, qdone_4, qunder_5) => (some ((6 : Int32), (0 : Int32), (0 : Int32), (0 : Int32), qgone_1, qmet_2, qstill_3, qdone_4, qunder_5)))

def rm_X3_clear : Room := { frames := 1, cells := 0, slots := 0, locals := 21 }

theorem pd_X3_clear : yX3_clear.cls ≠ "java/lang/invoke/MethodHandle" ∧ yX3_clear.cls ≠ "java/lang/invoke/VarHandle" ∧ (parseMethodDescriptor yX3_clear.desc).map (fun d => d.parameters.length) = some 0 := by decide +kernel

set_option maxHeartbeats 4000000 in
set_option maxRecDepth 100000 in
theorem c_X3_clear (l : Launch) (D : va_G) (cI cC cM : ClassId) (ar arn arp arpk arpq arpr arm armh armw arms armu : Nat) (rnum : (Nat → Int32)) (rpsq : Int32) (rppa : Int32) (rppe : Int32) (rpwo : Int32) (rpkind : (Nat → Int32)) (rpwsq : (Nat → Int32)) (rpwhr : (Nat → Int32)) (rmgone : Int32) (rmmet : Int32) (rmstill : Int32) (rmdone : Int32) (rmhour : (Nat → Int32)) (rmworn : (Nat → Int32)) (rmsquare : (Nat → Int32)) (rmunder : (Nat → Int32)) (rpsq' : Int32) (rppa' : Int32) (rppe' : Int32) (rpwo' : Int32) (rmgone' : Int32) (rmmet' : Int32) (rmstill' : Int32) (rmdone' : Int32) (rmunder' : (Nat → Int32)) (hF : f_X3_clear rmunder = some (rpsq', rppa', rppe', rpwo', rmgone', rmmet', rmstill', rmdone', rmunder')) : CV l D cI cC cM yX3_clear wsX3_clear rm_X3_clear [.ref ar] [(ar, .inr (3, [.ref arp, .ref arm, .ref arn])), (arn, .inl (cI, 3, .inl rnum)), (arp, .inr (2, [.int rpsq, .int rppa, .int rppe, .int rpwo, .ref arpk, .ref arpq, .ref arpr])), (arpk, .inl (cI, 6, .inl rpkind)), (arpq, .inl (cI, 6, .inl rpwsq)), (arpr, .inl (cI, 6, .inl rpwhr)), (arm, .inr (1, [.ref arp, .int rmgone, .int rmmet, .int rmstill, .int rmdone, .ref armh, .ref armw, .ref arms, .ref armu])), (armh, .inl (cI, 6, .inl rmhour)), (armw, .inl (cI, 6, .inl rmworn)), (arms, .inl (cI, 5, .inl rmsquare)), (armu, .inl (cI, 5, .inl rmunder))] [(ar, .inr (3, [.ref arp, .ref arm, .ref arn])), (arn, .inl (cI, 3, .inl rnum)), (arp, .inr (2, [.int rpsq', .int rppa', .int rppe', .int rpwo', .ref arpk, .ref arpq, .ref arpr])), (arpk, .inl (cI, 6, .inl rpkind)), (arpq, .inl (cI, 6, .inl rpwsq)), (arpr, .inl (cI, 6, .inl rpwhr)), (arm, .inr (1, [.ref arp, .int rmgone', .int rmmet', .int rmstill', .int rmdone', .ref armh, .ref armw, .ref arms, .ref armu])), (armh, .inl (cI, 6, .inl rmhour)), (armw, .inl (cI, 6, .inl rmworn)), (arms, .inl (cI, 5, .inl rmsquare)), (armu, .inl (cI, 5, .inl rmunder'))] := by
  refine CV.of (cc := cX3_clear) (nL := 1) (ret := none) (by decide) rfl (Nat.le_of_ble_eq_true rfl) ?_
  intro p e s m args below meth c A hC hP hD hS ls hl
  obtain ⟨hx, hb, hml, hown, hts, hr, hlk, hG, hA⟩ := id hC
  have hown : s.vm.findClass RX3 = some m.cls := hown
  have hK := hG.1
  have hl : lv_has ls 1 [(0, .ref ar)] := hl
  have k_f12 := hts (.fieldLink RX3 12 "ParasolHours$Reader" "plan" "LParasolHours$Plan;") (List.mem_of_getElem? (i := 1) rfl)
  have k_f44 := hts (.fieldLink RX3 44 "ParasolHours$Plan" "squares" "I") (List.mem_of_getElem? (i := 2) rfl)
  have k_f47 := hts (.fieldLink RX3 47 "ParasolHours$Plan" "parasols" "I") (List.mem_of_getElem? (i := 3) rfl)
  have k_f50 := hts (.fieldLink RX3 50 "ParasolHours$Plan" "persons" "I") (List.mem_of_getElem? (i := 4) rfl)
  have k_f53 := hts (.fieldLink RX3 53 "ParasolHours$Plan" "works" "I") (List.mem_of_getElem? (i := 5) rfl)
  have k_f23 := hts (.fieldLink RX3 23 "ParasolHours$Reader" "start" "LParasolHours$Moment;") (List.mem_of_getElem? (i := 6) rfl)
  have iX2 : ∀ w ∈ wsX20, w ∈ wsX3_clear := by decide +kernel
  have iX3 : ∀ w ∈ wsX30, w ∈ wsX3_clear := by decide +kernel
  obtain ⟨Q, hQ⟩ : ∃ Q, Q = MQ below (QV D [(ar, .inr (3, [.ref arp, .ref arm, .ref arn])), (arn, .inl (cI, 3, .inl rnum)), (arp, .inr (2, [.int rpsq', .int rppa', .int rppe', .int rpwo', .ref arpk, .ref arpq, .ref arpr])), (arpk, .inl (cI, 6, .inl rpkind)), (arpq, .inl (cI, 6, .inl rpwsq)), (arpr, .inl (cI, 6, .inl rpwhr)), (arm, .inr (1, [.ref arp, .int rmgone', .int rmmet', .int rmstill', .int rmdone', .ref armh, .ref armw, .ref arms, .ref armu])), (armh, .inl (cI, 6, .inl rmhour)), (armw, .inl (cI, 6, .inl rmworn)), (arms, .inl (cI, 5, .inl rmsquare)), (armu, .inl (cI, 5, .inl rmunder'))] A) args s 0 0 A := ⟨_, rfl⟩
  rw [← hQ]
  unfold f_X3_clear at hF
  refine lv_aload_n hx hb dX3_clear_0 rfl (lv_at hl 0 rfl) ?_
  refine va_get (D := D) (ci := 3) (v := .ref arp) (C := RX3) (T := TX3) (N := 3) hx hb hts iX3 hown hK hP 0 rfl rfl 0 (by decide) k_f12 (fun _ h9 => h9) rfl dX3_clear_1 ?_
  refine lv_bipush (v := (6 : Int32)) hx hb dX3_clear_4 (by decide) ?_
  refine va_put (D := D) (ci := 2) (v := .int (6 : Int32)) (ty := .int) (C := RX2) (T := TX2) (N := 7) hx hb hts iX2 tyX2 tyX2_ok nmX2 hown hK hP hD hS 2 rfl rfl 0 (by decide) k_f44 (fun _ h9 => h9) rfl (by decide +kernel) rfl rfl (Nat.le_of_ble_eq_true rfl) dX3_clear_6 (fun H locs hP hD hS => ?_)
  have hP : va_P D vwCl [(ar, .inr (3, [.ref arp, .ref arm, .ref arn])), (arn, .inl (cI, 3, .inl rnum)), (arp, .inr (2, [.int (6 : Int32), .int rppa, .int rppe, .int rpwo, .ref arpk, .ref arpq, .ref arpr])), (arpk, .inl (cI, 6, .inl rpkind)), (arpq, .inl (cI, 6, .inl rpwsq)), (arpr, .inl (cI, 6, .inl rpwhr)), (arm, .inr (1, [.ref arp, .int rmgone, .int rmmet, .int rmstill, .int rmdone, .ref armh, .ref armw, .ref arms, .ref armu])), (armh, .inl (cI, 6, .inl rmhour)), (armw, .inl (cI, 6, .inl rmworn)), (arms, .inl (cI, 5, .inl rmsquare)), (armu, .inl (cI, 5, .inl rmunder))] H := hP
  have hD : va_D A [(ar, .inr (3, [.ref arp, .ref arm, .ref arn])), (arn, .inl (cI, 3, .inl rnum)), (arp, .inr (2, [.int (6 : Int32), .int rppa, .int rppe, .int rpwo, .ref arpk, .ref arpq, .ref arpr])), (arpk, .inl (cI, 6, .inl rpkind)), (arpq, .inl (cI, 6, .inl rpwsq)), (arpr, .inl (cI, 6, .inl rpwhr)), (arm, .inr (1, [.ref arp, .int rmgone, .int rmmet, .int rmstill, .int rmdone, .ref armh, .ref armw, .ref arms, .ref armu])), (armh, .inl (cI, 6, .inl rmhour)), (armw, .inl (cI, 6, .inl rmworn)), (arms, .inl (cI, 5, .inl rmsquare)), (armu, .inl (cI, 5, .inl rmunder))] := hD
  refine lv_aload_n hx hb dX3_clear_9 rfl (lv_at hl 0 rfl) ?_
  refine va_get (D := D) (ci := 3) (v := .ref arp) (C := RX3) (T := TX3) (N := 3) hx hb hts iX3 hown hK hP 0 rfl rfl 0 (by decide) k_f12 (fun _ h9 => h9) rfl dX3_clear_10 ?_
  refine lv_iconst (v := (0 : Int32)) hx hb dX3_clear_13 (by decide) ?_
  refine va_put (D := D) (ci := 2) (v := .int (0 : Int32)) (ty := .int) (C := RX2) (T := TX2) (N := 7) hx hb hts iX2 tyX2 tyX2_ok nmX2 hown hK hP hD hS 2 rfl rfl 1 (by decide) k_f47 (fun _ h9 => h9) rfl (by decide +kernel) rfl rfl (Nat.le_of_ble_eq_true rfl) dX3_clear_14 (fun H locs hP hD hS => ?_)
  have hP : va_P D vwCl [(ar, .inr (3, [.ref arp, .ref arm, .ref arn])), (arn, .inl (cI, 3, .inl rnum)), (arp, .inr (2, [.int (6 : Int32), .int (0 : Int32), .int rppe, .int rpwo, .ref arpk, .ref arpq, .ref arpr])), (arpk, .inl (cI, 6, .inl rpkind)), (arpq, .inl (cI, 6, .inl rpwsq)), (arpr, .inl (cI, 6, .inl rpwhr)), (arm, .inr (1, [.ref arp, .int rmgone, .int rmmet, .int rmstill, .int rmdone, .ref armh, .ref armw, .ref arms, .ref armu])), (armh, .inl (cI, 6, .inl rmhour)), (armw, .inl (cI, 6, .inl rmworn)), (arms, .inl (cI, 5, .inl rmsquare)), (armu, .inl (cI, 5, .inl rmunder))] H := hP
  have hD : va_D A [(ar, .inr (3, [.ref arp, .ref arm, .ref arn])), (arn, .inl (cI, 3, .inl rnum)), (arp, .inr (2, [.int (6 : Int32), .int (0 : Int32), .int rppe, .int rpwo, .ref arpk, .ref arpq, .ref arpr])), (arpk, .inl (cI, 6, .inl rpkind)), (arpq, .inl (cI, 6, .inl rpwsq)), (arpr, .inl (cI, 6, .inl rpwhr)), (arm, .inr (1, [.ref arp, .int rmgone, .int rmmet, .int rmstill, .int rmdone, .ref armh, .ref armw, .ref arms, .ref armu])), (armh, .inl (cI, 6, .inl rmhour)), (armw, .inl (cI, 6, .inl rmworn)), (arms, .inl (cI, 5, .inl rmsquare)), (armu, .inl (cI, 5, .inl rmunder))] := hD
  refine lv_aload_n hx hb dX3_clear_17 rfl (lv_at hl 0 rfl) ?_
  refine va_get (D := D) (ci := 3) (v := .ref arp) (C := RX3) (T := TX3) (N := 3) hx hb hts iX3 hown hK hP 0 rfl rfl 0 (by decide) k_f12 (fun _ h9 => h9) rfl dX3_clear_18 ?_
  refine lv_iconst (v := (0 : Int32)) hx hb dX3_clear_21 (by decide) ?_
  refine va_put (D := D) (ci := 2) (v := .int (0 : Int32)) (ty := .int) (C := RX2) (T := TX2) (N := 7) hx hb hts iX2 tyX2 tyX2_ok nmX2 hown hK hP hD hS 2 rfl rfl 2 (by decide) k_f50 (fun _ h9 => h9) rfl (by decide +kernel) rfl rfl (Nat.le_of_ble_eq_true rfl) dX3_clear_22 (fun H locs hP hD hS => ?_)
  have hP : va_P D vwCl [(ar, .inr (3, [.ref arp, .ref arm, .ref arn])), (arn, .inl (cI, 3, .inl rnum)), (arp, .inr (2, [.int (6 : Int32), .int (0 : Int32), .int (0 : Int32), .int rpwo, .ref arpk, .ref arpq, .ref arpr])), (arpk, .inl (cI, 6, .inl rpkind)), (arpq, .inl (cI, 6, .inl rpwsq)), (arpr, .inl (cI, 6, .inl rpwhr)), (arm, .inr (1, [.ref arp, .int rmgone, .int rmmet, .int rmstill, .int rmdone, .ref armh, .ref armw, .ref arms, .ref armu])), (armh, .inl (cI, 6, .inl rmhour)), (armw, .inl (cI, 6, .inl rmworn)), (arms, .inl (cI, 5, .inl rmsquare)), (armu, .inl (cI, 5, .inl rmunder))] H := hP
  have hD : va_D A [(ar, .inr (3, [.ref arp, .ref arm, .ref arn])), (arn, .inl (cI, 3, .inl rnum)), (arp, .inr (2, [.int (6 : Int32), .int (0 : Int32), .int (0 : Int32), .int rpwo, .ref arpk, .ref arpq, .ref arpr])), (arpk, .inl (cI, 6, .inl rpkind)), (arpq, .inl (cI, 6, .inl rpwsq)), (arpr, .inl (cI, 6, .inl rpwhr)), (arm, .inr (1, [.ref arp, .int rmgone, .int rmmet, .int rmstill, .int rmdone, .ref armh, .ref armw, .ref arms, .ref armu])), (armh, .inl (cI, 6, .inl rmhour)), (armw, .inl (cI, 6, .inl rmworn)), (arms, .inl (cI, 5, .inl rmsquare)), (armu, .inl (cI, 5, .inl rmunder))] := hD
  refine lv_aload_n hx hb dX3_clear_25 rfl (lv_at hl 0 rfl) ?_
  refine va_get (D := D) (ci := 3) (v := .ref arp) (C := RX3) (T := TX3) (N := 3) hx hb hts iX3 hown hK hP 0 rfl rfl 0 (by decide) k_f12 (fun _ h9 => h9) rfl dX3_clear_26 ?_
  refine lv_iconst (v := (0 : Int32)) hx hb dX3_clear_29 (by decide) ?_
  refine va_put (D := D) (ci := 2) (v := .int (0 : Int32)) (ty := .int) (C := RX2) (T := TX2) (N := 7) hx hb hts iX2 tyX2 tyX2_ok nmX2 hown hK hP hD hS 2 rfl rfl 3 (by decide) k_f53 (fun _ h9 => h9) rfl (by decide +kernel) rfl rfl (Nat.le_of_ble_eq_true rfl) dX3_clear_30 (fun H locs hP hD hS => ?_)
  have hP : va_P D vwCl [(ar, .inr (3, [.ref arp, .ref arm, .ref arn])), (arn, .inl (cI, 3, .inl rnum)), (arp, .inr (2, [.int (6 : Int32), .int (0 : Int32), .int (0 : Int32), .int (0 : Int32), .ref arpk, .ref arpq, .ref arpr])), (arpk, .inl (cI, 6, .inl rpkind)), (arpq, .inl (cI, 6, .inl rpwsq)), (arpr, .inl (cI, 6, .inl rpwhr)), (arm, .inr (1, [.ref arp, .int rmgone, .int rmmet, .int rmstill, .int rmdone, .ref armh, .ref armw, .ref arms, .ref armu])), (armh, .inl (cI, 6, .inl rmhour)), (armw, .inl (cI, 6, .inl rmworn)), (arms, .inl (cI, 5, .inl rmsquare)), (armu, .inl (cI, 5, .inl rmunder))] H := hP
  have hD : va_D A [(ar, .inr (3, [.ref arp, .ref arm, .ref arn])), (arn, .inl (cI, 3, .inl rnum)), (arp, .inr (2, [.int (6 : Int32), .int (0 : Int32), .int (0 : Int32), .int (0 : Int32), .ref arpk, .ref arpq, .ref arpr])), (arpk, .inl (cI, 6, .inl rpkind)), (arpq, .inl (cI, 6, .inl rpwsq)), (arpr, .inl (cI, 6, .inl rpwhr)), (arm, .inr (1, [.ref arp, .int rmgone, .int rmmet, .int rmstill, .int rmdone, .ref armh, .ref armw, .ref arms, .ref armu])), (armh, .inl (cI, 6, .inl rmhour)), (armw, .inl (cI, 6, .inl rmworn)), (arms, .inl (cI, 5, .inl rmsquare)), (armu, .inl (cI, 5, .inl rmunder))] := hD
  refine lv_aload_n hx hb dX3_clear_33 rfl (lv_at hl 0 rfl) ?_
  refine va_get (D := D) (ci := 3) (v := .ref arm) (C := RX3) (T := TX3) (N := 3) hx hb hts iX3 hown hK hP 0 rfl rfl 1 (by decide) k_f23 (fun _ h9 => h9) rfl dX3_clear_34 ?_
  obtain ⟨⟨qgone_1, qmet_2, qstill_3, qdone_4, qunder_5⟩, hb6, hF⟩ := op_bind hF
  refine xVv (As := []) (rest := []) hC hP hD hS [6, 7, 8, 9, 10] (c_X1_clear l D cI cC cM arm armh armw arms armu arp rmgone rmmet rmstill rmdone rmhour rmworn rmsquare rmunder qgone_1 qmet_2 qstill_3 qdone_4 qunder_5 hb6) (cwV 0 hts gX3_clear_X1_clear rfl rfl rfl ⟨rfl, pd_X1_clear⟩ ⟨Nat.le_of_ble_eq_true rfl, Nat.le_of_ble_eq_true rfl⟩) rfl rfl rfl 6 1 rfl rfl rfl rfl hl.1 rfl (Nat.le_of_ble_eq_true rfl) dX3_clear_37 ⟨Nat.zero_le _, Nat.zero_le _⟩ (fun H locs hP hD hS => ?_)
  have hP : va_P D vwCl [(ar, .inr (3, [.ref arp, .ref arm, .ref arn])), (arn, .inl (cI, 3, .inl rnum)), (arp, .inr (2, [.int (6 : Int32), .int (0 : Int32), .int (0 : Int32), .int (0 : Int32), .ref arpk, .ref arpq, .ref arpr])), (arpk, .inl (cI, 6, .inl rpkind)), (arpq, .inl (cI, 6, .inl rpwsq)), (arpr, .inl (cI, 6, .inl rpwhr)), (arm, .inr (1, [.ref arp, .int qgone_1, .int qmet_2, .int qstill_3, .int qdone_4, .ref armh, .ref armw, .ref arms, .ref armu])), (armh, .inl (cI, 6, .inl rmhour)), (armw, .inl (cI, 6, .inl rmworn)), (arms, .inl (cI, 5, .inl rmsquare)), (armu, .inl (cI, 5, .inl qunder_5))] H := hP
  have hD : va_D A [(ar, .inr (3, [.ref arp, .ref arm, .ref arn])), (arn, .inl (cI, 3, .inl rnum)), (arp, .inr (2, [.int (6 : Int32), .int (0 : Int32), .int (0 : Int32), .int (0 : Int32), .ref arpk, .ref arpq, .ref arpr])), (arpk, .inl (cI, 6, .inl rpkind)), (arpq, .inl (cI, 6, .inl rpwsq)), (arpr, .inl (cI, 6, .inl rpwhr)), (arm, .inr (1, [.ref arp, .int qgone_1, .int qmet_2, .int qstill_3, .int qdone_4, .ref armh, .ref armw, .ref arms, .ref armu])), (armh, .inl (cI, 6, .inl rmhour)), (armw, .inl (cI, 6, .inl rmworn)), (arms, .inl (cI, 5, .inl rmsquare)), (armu, .inl (cI, 5, .inl qunder_5))] := hD
  cases hF
  rw [hQ]
  exact xrv hC hP hS dX3_clear_40

def f_X3_numbersOf (i : Int32) : Option Int32 := (if i = (117 : Int32) then (some (3 : Int32)) else (if i = (119 : Int32) then (some (2 : Int32)) else (if i = (113 : Int32) then (some (1 : Int32)) else (if i = (112 : Int32) then (some (1 : Int32)) else (some (0 : Int32))))))

def rm_X3_numbersOf : Room := { frames := 0, cells := 0, slots := 0, locals := 0 }

theorem pd_X3_numbersOf : yX3_numbersOf.cls ≠ "java/lang/invoke/MethodHandle" ∧ yX3_numbersOf.cls ≠ "java/lang/invoke/VarHandle" ∧ (parseMethodDescriptor yX3_numbersOf.desc).map (fun d => d.parameters.length) = some 1 := by decide +kernel

set_option maxHeartbeats 4000000 in
set_option maxRecDepth 100000 in
theorem c_X3_numbersOf (l : Launch) (D : va_G) (cI cC cM : ClassId) (i : Int32) (rr : Int32) (hF : f_X3_numbersOf i = some rr) : CI l D cI cC cM yX3_numbersOf wsX3_numbersOf rm_X3_numbersOf [.int i] [] [] rr := by
  refine CI.of (cc := cX3_numbersOf) (nL := 1) (ret := (some .int)) (by decide) rfl (Nat.le_of_ble_eq_true rfl) ?_
  intro p e s m args below meth c A hC hP hD hS ls hl
  obtain ⟨hx, hb, hml, hown, hts, hr, hlk, hG, hA⟩ := id hC
  have hown : s.vm.findClass RX3 = some m.cls := hown
  have hK := hG.1
  have hl : lv_has ls 1 [(0, .int i)] := hl
  obtain ⟨Q, hQ⟩ : ∃ Q, Q = MQ below (QI D [] rr A) args s 0 0 A := ⟨_, rfl⟩
  rw [← hQ]
  unfold f_X3_numbersOf at hF
  refine lv_iload_n hx hb dX3_numbersOf_0 rfl (lv_at hl 0 rfl) ?_
  refine lv_bipush (v := (117 : Int32)) hx hb dX3_numbersOf_1 (by decide) ?_
  refine lv_icmp_ne (tgt := 8) hx hb dX3_numbersOf_3 (by decide) (fun c1 => ?_) (fun c1 => ?_)
  · have hF := op_neg c1 hF
    refine lv_iload_n hx hb dX3_numbersOf_8 rfl (lv_at hl 0 rfl) ?_
    refine lv_bipush (v := (119 : Int32)) hx hb dX3_numbersOf_9 (by decide) ?_
    refine lv_icmp_ne (tgt := 16) hx hb dX3_numbersOf_11 (by decide) (fun c2 => ?_) (fun c2 => ?_)
    · have hF := op_neg c2 hF
      refine lv_iload_n hx hb dX3_numbersOf_16 rfl (lv_at hl 0 rfl) ?_
      refine lv_bipush (v := (113 : Int32)) hx hb dX3_numbersOf_17 (by decide) ?_
      refine lv_icmp_eq (tgt := 28) hx hb dX3_numbersOf_19 (by decide) (fun c3 => ?_) (fun c3 => ?_)
      · have hF := op_pos c3 hF
        refine lv_iconst (v := (1 : Int32)) hx hb dX3_numbersOf_28 (by decide) ?_
        refine lv_goto (tgt := 33) hx hb dX3_numbersOf_29 (by decide) ?_
        cases hF
        rw [hQ]
        exact xri hC hP hS dX3_numbersOf_33
      · have hF := op_neg c3 hF
        refine lv_iload_n hx hb dX3_numbersOf_22 rfl (lv_at hl 0 rfl) ?_
        refine lv_bipush (v := (112 : Int32)) hx hb dX3_numbersOf_23 (by decide) ?_
        refine lv_icmp_ne (tgt := 32) hx hb dX3_numbersOf_25 (by decide) (fun c4 => ?_) (fun c4 => ?_)
        · have hF := op_neg c4 hF
          refine lv_iconst (v := (0 : Int32)) hx hb dX3_numbersOf_32 (by decide) ?_
          cases hF
          rw [hQ]
          exact xri hC hP hS dX3_numbersOf_33
        · have hF := op_pos c4 hF
          refine lv_iconst (v := (1 : Int32)) hx hb dX3_numbersOf_28 (by decide) ?_
          refine lv_goto (tgt := 33) hx hb dX3_numbersOf_29 (by decide) ?_
          cases hF
          rw [hQ]
          exact xri hC hP hS dX3_numbersOf_33
    · have hF := op_pos c2 hF
      refine lv_iconst (v := (2 : Int32)) hx hb dX3_numbersOf_14 (by decide) ?_
      cases hF
      rw [hQ]
      exact xri hC hP hS dX3_numbersOf_15
  · have hF := op_pos c1 hF
    refine lv_iconst (v := (3 : Int32)) hx hb dX3_numbersOf_6 (by decide) ?_
    cases hF
    rw [hQ]
    exact xri hC hP hS dX3_numbersOf_7

def f_X3_isFigure (i : Int32) : Option Int32 := (if i < (48 : Int32) then (some (0 : Int32)) else (if (57 : Int32) < i then (some (0 : Int32)) else (some (1 : Int32))))

def rm_X3_isFigure : Room := { frames := 0, cells := 0, slots := 0, locals := 0 }

theorem pd_X3_isFigure : yX3_isFigure.cls ≠ "java/lang/invoke/MethodHandle" ∧ yX3_isFigure.cls ≠ "java/lang/invoke/VarHandle" ∧ (parseMethodDescriptor yX3_isFigure.desc).map (fun d => d.parameters.length) = some 1 := by decide +kernel

set_option maxHeartbeats 4000000 in
set_option maxRecDepth 100000 in
theorem c_X3_isFigure (l : Launch) (D : va_G) (cI cC cM : ClassId) (i : Int32) (rr : Int32) (hF : f_X3_isFigure i = some rr) : CI l D cI cC cM yX3_isFigure wsX3_isFigure rm_X3_isFigure [.int i] [] [] rr := by
  refine CI.of (cc := cX3_isFigure) (nL := 1) (ret := (some .boolean)) (by decide) rfl (Nat.le_of_ble_eq_true rfl) ?_
  intro p e s m args below meth c A hC hP hD hS ls hl
  obtain ⟨hx, hb, hml, hown, hts, hr, hlk, hG, hA⟩ := id hC
  have hown : s.vm.findClass RX3 = some m.cls := hown
  have hK := hG.1
  have hl : lv_has ls 1 [(0, .int i)] := hl
  obtain ⟨Q, hQ⟩ : ∃ Q, Q = MQ below (QI D [] rr A) args s 0 0 A := ⟨_, rfl⟩
  rw [← hQ]
  unfold f_X3_isFigure at hF
  refine lv_iload_n hx hb dX3_isFigure_0 rfl (lv_at hl 0 rfl) ?_
  refine lv_bipush (v := (48 : Int32)) hx hb dX3_isFigure_1 (by decide) ?_
  refine lv_icmp_lt (tgt := 16) hx hb dX3_isFigure_3 (by decide) (fun c1 => ?_) (fun c1 => ?_)
  · have hF := op_pos c1 hF
    refine lv_iconst (v := (0 : Int32)) hx hb dX3_isFigure_16 (by decide) ?_
    cases hF
    rw [hQ]
    exact xrz hC rfl hP hS dX3_isFigure_17
  · have hF := op_neg c1 hF
    refine lv_iload_n hx hb dX3_isFigure_6 rfl (lv_at hl 0 rfl) ?_
    refine lv_bipush (v := (57 : Int32)) hx hb dX3_isFigure_7 (by decide) ?_
    refine lv_icmp_gt (tgt := 16) hx hb dX3_isFigure_9 (by decide) (fun c2 => ?_) (fun c2 => ?_)
    · have hF := op_pos c2 hF
      refine lv_iconst (v := (0 : Int32)) hx hb dX3_isFigure_16 (by decide) ?_
      cases hF
      rw [hQ]
      exact xrz hC rfl hP hS dX3_isFigure_17
    · have hF := op_neg c2 hF
      refine lv_iconst (v := (1 : Int32)) hx hb dX3_isFigure_12 (by decide) ?_
      refine lv_goto (tgt := 17) hx hb dX3_isFigure_13 (by decide) ?_
      cases hF
      rw [hQ]
      exact xrz hC rfl hP hS dX3_isFigure_17

def f_X3_behindNumber_L6 (i : Int32) (ylen : Int32) (ylet : (Nat → Int32)) (k6 : Int32 → Int32 → Option (Int32 × (Nat → Int32))) : Nat → Int32 → Int32 → Option (Int32 × (Nat → Int32))
  | 0, _, _ => none
  | nf6 + 1, v1, v2 => (if (i + (2 : Int32)) ≤ v2 then (k6 v1 v2) else (Option.bind (f_X6_letterAt ylen ylet v2) fun r4 => (Option.bind (f_X3_isFigure r4) fun r6 => (if r6 = 0 then (k6 v1 v2) else (Option.bind (f_X6_letterAt ylen ylet v2) fun r9 => (f_X3_behindNumber_L6 i ylen ylet k6 nf6 ((v1 * (10 : Int32)) + (r9 - (48 : Int32))) (v2 + (1 : Int32))))))))
theorem f_X3_behindNumber_L6_0 (i : Int32) (ylen : Int32) (ylet : (Nat → Int32)) (k6 : Int32 → Int32 → Option (Int32 × (Nat → Int32))) (v1 : Int32) (v2 : Int32) : f_X3_behindNumber_L6 i ylen ylet k6 0 v1 v2 = none := rfl
theorem f_X3_behindNumber_L6_s (i : Int32) (ylen : Int32) (ylet : (Nat → Int32)) (k6 : Int32 → Int32 → Option (Int32 × (Nat → Int32))) (nf6 : Nat) (v1 : Int32) (v2 : Int32) : f_X3_behindNumber_L6 i ylen ylet k6 (nf6 + 1) v1 v2 = (if (i + (2 : Int32)) ≤ v2 then (k6 v1 v2) else (Option.bind (f_X6_letterAt ylen ylet v2) fun r4 => (Option.bind (f_X3_isFigure r4) fun r6 => (if r6 = 0 then (k6 v1 v2) else (Option.bind (f_X6_letterAt ylen ylet v2) fun r9 => (f_X3_behindNumber_L6 i ylen ylet k6 nf6 ((v1 * (10 : Int32)) + (r9 - (48 : Int32))) (v2 + (1 : Int32)))))))) := rfl

def f_X3_behindNumber (rnum : (Nat → Int32)) (ylen : Int32) (ylet : (Nat → Int32)) (i : Int32) (j : Int32) (w : Int32) : Option (Int32 × (Nat → Int32)) := (f_X3_behindNumber_L6 i ylen ylet (fun (v1 : Int32) (v2 : Int32) => (if v2 = i then (some ((-4 : Int32), rnum)) else (Option.bind (f_X6_letterAt ylen ylet v2) fun r12 => (if r12 = w then (Option.bind (f_X7_put 3 rnum j v1) fun f_15 => (some ((v2 + (1 : Int32)), f_15))) else (some ((-4 : Int32), rnum)))))) 20000 (0 : Int32) i)

def rm_X3_behindNumber : Room := { frames := 1, cells := 0, slots := 0, locals := 22 }

theorem pd_X3_behindNumber : yX3_behindNumber.cls ≠ "java/lang/invoke/MethodHandle" ∧ yX3_behindNumber.cls ≠ "java/lang/invoke/VarHandle" ∧ (parseMethodDescriptor yX3_behindNumber.desc).map (fun d => d.parameters.length) = some 4 := by decide +kernel

set_option maxHeartbeats 4000000 in
set_option maxRecDepth 100000 in
theorem c_X3_behindNumber (l : Launch) (D : va_G) (cI cC cM : ClassId) (ar arn arp arpk arpq arpr arm armh armw arms armu ay ayl : Nat) (rnum : (Nat → Int32)) (rpsq : Int32) (rppa : Int32) (rppe : Int32) (rpwo : Int32) (rpkind : (Nat → Int32)) (rpwsq : (Nat → Int32)) (rpwhr : (Nat → Int32)) (rmgone : Int32) (rmmet : Int32) (rmstill : Int32) (rmdone : Int32) (rmhour : (Nat → Int32)) (rmworn : (Nat → Int32)) (rmsquare : (Nat → Int32)) (rmunder : (Nat → Int32)) (ylen : Int32) (ylet : (Nat → Int32)) (i : Int32) (j : Int32) (w : Int32) (rr : Int32) (rnum' : (Nat → Int32)) (hF : f_X3_behindNumber rnum ylen ylet i j w = some (rr, rnum')) : CI l D cI cC cM yX3_behindNumber wsX3_behindNumber rm_X3_behindNumber [.ref ar, .ref ay, .int i, .int j, .int w] [(ar, .inr (3, [.ref arp, .ref arm, .ref arn])), (arn, .inl (cI, 3, .inl rnum)), (arp, .inr (2, [.int rpsq, .int rppa, .int rppe, .int rpwo, .ref arpk, .ref arpq, .ref arpr])), (arpk, .inl (cI, 6, .inl rpkind)), (arpq, .inl (cI, 6, .inl rpwsq)), (arpr, .inl (cI, 6, .inl rpwhr)), (arm, .inr (1, [.ref arp, .int rmgone, .int rmmet, .int rmstill, .int rmdone, .ref armh, .ref armw, .ref arms, .ref armu])), (armh, .inl (cI, 6, .inl rmhour)), (armw, .inl (cI, 6, .inl rmworn)), (arms, .inl (cI, 5, .inl rmsquare)), (armu, .inl (cI, 5, .inl rmunder)), (ay, .inr (6, [.ref ayl, .int ylen])), (ayl, .inl (cC, 200, .inl ylet))] [(ar, .inr (3, [.ref arp, .ref arm, .ref arn])), (arn, .inl (cI, 3, .inl rnum')), (arp, .inr (2, [.int rpsq, .int rppa, .int rppe, .int rpwo, .ref arpk, .ref arpq, .ref arpr])), (arpk, .inl (cI, 6, .inl rpkind)), (arpq, .inl (cI, 6, .inl rpwsq)), (arpr, .inl (cI, 6, .inl rpwhr)), (arm, .inr (1, [.ref arp, .int rmgone, .int rmmet, .int rmstill, .int rmdone, .ref armh, .ref armw, .ref arms, .ref armu])), (armh, .inl (cI, 6, .inl rmhour)), (armw, .inl (cI, 6, .inl rmworn)), (arms, .inl (cI, 5, .inl rmsquare)), (armu, .inl (cI, 5, .inl rmunder)), (ay, .inr (6, [.ref ayl, .int ylen])), (ayl, .inl (cC, 200, .inl ylet))] rr := by
  refine CI.of (cc := cX3_behindNumber) (nL := 7) (ret := (some .int)) (by decide) rfl (Nat.le_of_ble_eq_true rfl) ?_
  intro p e s m args below meth c A hC hP hD hS ls hl
  obtain ⟨hx, hb, hml, hown, hts, hr, hlk, hG, hA⟩ := id hC
  have hown : s.vm.findClass RX3 = some m.cls := hown
  have hK := hG.1
  have hl : lv_has ls 7 [(0, .ref ar), (1, .ref ay), (2, .int i), (3, .int j), (4, .int w)] := hl
  have k_f27 := hts (.fieldLink RX3 27 "ParasolHours$Reader" "numbers" "[I") (List.mem_of_getElem? (i := 1) rfl)
  have k_st_put := hts (.static yX7_put) (List.mem_of_getElem? (i := 13) rfl)
  have k_in_X7 := hts (.initialized RX7) (List.mem_of_getElem? (i := 14) rfl)
  have iX3 : ∀ w ∈ wsX30, w ∈ wsX3_behindNumber := by decide +kernel
  obtain ⟨Q, hQ⟩ : ∃ Q, Q = MQ below (QI D [(ar, .inr (3, [.ref arp, .ref arm, .ref arn])), (arn, .inl (cI, 3, .inl rnum')), (arp, .inr (2, [.int rpsq, .int rppa, .int rppe, .int rpwo, .ref arpk, .ref arpq, .ref arpr])), (arpk, .inl (cI, 6, .inl rpkind)), (arpq, .inl (cI, 6, .inl rpwsq)), (arpr, .inl (cI, 6, .inl rpwhr)), (arm, .inr (1, [.ref arp, .int rmgone, .int rmmet, .int rmstill, .int rmdone, .ref armh, .ref armw, .ref arms, .ref armu])), (armh, .inl (cI, 6, .inl rmhour)), (armw, .inl (cI, 6, .inl rmworn)), (arms, .inl (cI, 5, .inl rmsquare)), (armu, .inl (cI, 5, .inl rmunder)), (ay, .inr (6, [.ref ayl, .int ylen])), (ayl, .inl (cC, 200, .inl ylet))] rr A) args s 0 0 A := ⟨_, rfl⟩
  rw [← hQ]
  unfold f_X3_behindNumber at hF
  refine lv_iconst (v := (0 : Int32)) hx hb dX3_behindNumber_0 (by decide) ?_
  refine lv_istore (lv' := [(5, .int (0 : Int32)), (0, .ref ar), (1, .ref ay), (2, .int i), (3, .int j), (4, .int w)]) hx hb dX3_behindNumber_1 hl (by decide) rfl (fun ls hl => ?_)
  refine lv_iload_n hx hb dX3_behindNumber_3 rfl (lv_at hl 3 rfl) ?_
  refine lv_istore (lv' := [(6, .int i), (5, .int (0 : Int32)), (0, .ref ar), (1, .ref ay), (2, .int i), (3, .int j), (4, .int w)]) hx hb dX3_behindNumber_4 hl (by decide) rfl (fun ls hl => ?_)
  have hL6 : ∀ (k6 : Int32 → Int32 → Option (Int32 × (Nat → Int32))), (∀ (v1 : Int32) (v2 : Int32) (H : Heap) (locs : List Loc), va_P D vwCl [(ar, .inr (3, [.ref arp, .ref arm, .ref arn])), (arn, .inl (cI, 3, .inl rnum)), (arp, .inr (2, [.int rpsq, .int rppa, .int rppe, .int rpwo, .ref arpk, .ref arpq, .ref arpr])), (arpk, .inl (cI, 6, .inl rpkind)), (arpq, .inl (cI, 6, .inl rpwsq)), (arpr, .inl (cI, 6, .inl rpwhr)), (arm, .inr (1, [.ref arp, .int rmgone, .int rmmet, .int rmstill, .int rmdone, .ref armh, .ref armw, .ref arms, .ref armu])), (armh, .inl (cI, 6, .inl rmhour)), (armw, .inl (cI, 6, .inl rmworn)), (arms, .inl (cI, 5, .inl rmsquare)), (armu, .inl (cI, 5, .inl rmunder)), (ay, .inr (6, [.ref ayl, .int ylen])), (ayl, .inl (cC, 200, .inl ylet))] H → va_D A [(ar, .inr (3, [.ref arp, .ref arm, .ref arn])), (arn, .inl (cI, 3, .inl rnum)), (arp, .inr (2, [.int rpsq, .int rppa, .int rppe, .int rpwo, .ref arpk, .ref arpq, .ref arpr])), (arpk, .inl (cI, 6, .inl rpkind)), (arpq, .inl (cI, 6, .inl rpwsq)), (arpr, .inl (cI, 6, .inl rpwhr)), (arm, .inr (1, [.ref arp, .int rmgone, .int rmmet, .int rmstill, .int rmdone, .ref armh, .ref armw, .ref arms, .ref armu])), (armh, .inl (cI, 6, .inl rmhour)), (armw, .inl (cI, 6, .inl rmworn)), (arms, .inl (cI, 5, .inl rmsquare)), (armu, .inl (cI, 5, .inl rmunder)), (ay, .inr (6, [.ref ayl, .int ylen])), (ayl, .inl (cC, 200, .inl ylet))] → va_S A s.heap H locs → ∀ ls : Array Slot, lv_has ls 7 [(6, .int v2), (5, .int v1), (0, .ref ar), (1, .ref ay), (2, .int i), (3, .int j), (4, .int w)] → k6 v1 v2 = some (rr, rnum') → W p l e rm_X3_behindNumber s m args below meth c H locs 0 0 Q (F0 m 49 ls [])) → ∀ (nf6 : Nat) (v1 : Int32) (v2 : Int32) (H : Heap) (locs : List Loc), va_P D vwCl [(ar, .inr (3, [.ref arp, .ref arm, .ref arn])), (arn, .inl (cI, 3, .inl rnum)), (arp, .inr (2, [.int rpsq, .int rppa, .int rppe, .int rpwo, .ref arpk, .ref arpq, .ref arpr])), (arpk, .inl (cI, 6, .inl rpkind)), (arpq, .inl (cI, 6, .inl rpwsq)), (arpr, .inl (cI, 6, .inl rpwhr)), (arm, .inr (1, [.ref arp, .int rmgone, .int rmmet, .int rmstill, .int rmdone, .ref armh, .ref armw, .ref arms, .ref armu])), (armh, .inl (cI, 6, .inl rmhour)), (armw, .inl (cI, 6, .inl rmworn)), (arms, .inl (cI, 5, .inl rmsquare)), (armu, .inl (cI, 5, .inl rmunder)), (ay, .inr (6, [.ref ayl, .int ylen])), (ayl, .inl (cC, 200, .inl ylet))] H → va_D A [(ar, .inr (3, [.ref arp, .ref arm, .ref arn])), (arn, .inl (cI, 3, .inl rnum)), (arp, .inr (2, [.int rpsq, .int rppa, .int rppe, .int rpwo, .ref arpk, .ref arpq, .ref arpr])), (arpk, .inl (cI, 6, .inl rpkind)), (arpq, .inl (cI, 6, .inl rpwsq)), (arpr, .inl (cI, 6, .inl rpwhr)), (arm, .inr (1, [.ref arp, .int rmgone, .int rmmet, .int rmstill, .int rmdone, .ref armh, .ref armw, .ref arms, .ref armu])), (armh, .inl (cI, 6, .inl rmhour)), (armw, .inl (cI, 6, .inl rmworn)), (arms, .inl (cI, 5, .inl rmsquare)), (armu, .inl (cI, 5, .inl rmunder)), (ay, .inr (6, [.ref ayl, .int ylen])), (ayl, .inl (cC, 200, .inl ylet))] → va_S A s.heap H locs → ∀ ls : Array Slot, lv_has ls 7 [(6, .int v2), (5, .int v1), (0, .ref ar), (1, .ref ay), (2, .int i), (3, .int j), (4, .int w)] → f_X3_behindNumber_L6 i ylen ylet k6 nf6 v1 v2 = some (rr, rnum') → W p l e rm_X3_behindNumber s m args below meth c H locs 0 0 Q (F0 m 6 ls []) := by
    intro k6 hk6 nf6
    induction nf6 with
    | zero =>
      intro v1 v2 H locs hP hD hS ls hl hF
      rw [f_X3_behindNumber_L6_0] at hF
      cases hF
    | succ nf6 ih6 =>
      intro v1 v2 H locs hP hD hS ls hl hF
      rw [f_X3_behindNumber_L6_s] at hF
      refine lv_iload hx hb dX3_behindNumber_6 (lv_at hl 0 rfl) ?_
      refine lv_iload_n hx hb dX3_behindNumber_8 rfl (lv_at hl 4 rfl) ?_
      refine lv_iconst (v := (2 : Int32)) hx hb dX3_behindNumber_9 (by decide) ?_
      refine lv_iadd hx hb dX3_behindNumber_10 ?_
      refine lv_icmp_ge (tgt := 49) hx hb dX3_behindNumber_11 (by decide) (fun c3 => ?_) (fun c3 => ?_)
      · have hF := op_pos c3 hF
        exact hk6 v1 v2 _ _ hP hD hS _ (lv_sub hl [0, 1, 2, 3, 4, 5, 6] rfl) hF
      · have hF := op_neg c3 hF
        refine lv_aload_n hx hb dX3_behindNumber_14 rfl (lv_at hl 3 rfl) ?_
        refine lv_iload hx hb dX3_behindNumber_15 (lv_at hl 0 rfl) ?_
        obtain ⟨r4, hb5, hF⟩ := op_bind hF
        refine xVr (As := [.int v2]) (rest := []) hC hP hD hS [11, 12] (c_X6_letterAt l D cI cC cM ay ayl ylen ylet v2 r4 hb5) (cwV 1 hts gX3_behindNumber_X6_letterAt rfl rfl rfl ⟨rfl, pd_X6_letterAt⟩ ⟨Nat.le_of_ble_eq_true rfl, Nat.le_of_ble_eq_true rfl⟩) rfl rfl 11 6 rfl rfl rfl rfl hl.1 rfl (Nat.le_of_ble_eq_true rfl) dX3_behindNumber_17 ⟨Nat.zero_le _, Nat.zero_le _⟩ (fun H locs hP hS => ?_)
        obtain ⟨r6, hb7, hF⟩ := op_bind hF
        refine xSr (As := [.int r4]) (rest := []) hC hP hD hS [] (c_X3_isFigure l D cI cC cM r4 r6 hb7) (va_cwS 1 hts gX3_behindNumber_X3_isFigure rfl rfl rfl pd_X3_isFigure ⟨Nat.le_of_ble_eq_true rfl, Nat.le_of_ble_eq_true rfl⟩) rfl rfl rfl hl.1 rfl (Nat.le_of_ble_eq_true rfl) dX3_behindNumber_20 ⟨Nat.zero_le _, Nat.zero_le _⟩ (fun H locs hP hS => ?_)
        refine lv_if_eq (tgt := 49) hx hb dX3_behindNumber_23 (by decide) (fun c8 => ?_) (fun c8 => ?_)
        · have hF := op_pos c8 hF
          exact hk6 v1 v2 _ _ hP hD hS _ (lv_sub hl [0, 1, 2, 3, 4, 5, 6] rfl) hF
        · have hF := op_neg c8 hF
          refine lv_iload hx hb dX3_behindNumber_26 (lv_at hl 1 rfl) ?_
          refine lv_bipush (v := (10 : Int32)) hx hb dX3_behindNumber_28 (by decide) ?_
          refine lv_imul hx hb dX3_behindNumber_30 ?_
          refine lv_aload_n hx hb dX3_behindNumber_31 rfl (lv_at hl 3 rfl) ?_
          refine lv_iload hx hb dX3_behindNumber_32 (lv_at hl 0 rfl) ?_
          obtain ⟨r9, hb10, hF⟩ := op_bind hF
          refine xVr (As := [.int v2]) (rest := [.int (v1 * (10 : Int32))]) hC hP hD hS [11, 12] (c_X6_letterAt l D cI cC cM ay ayl ylen ylet v2 r9 hb10) (cwV 1 hts gX3_behindNumber_X6_letterAt rfl rfl rfl ⟨rfl, pd_X6_letterAt⟩ ⟨Nat.le_of_ble_eq_true rfl, Nat.le_of_ble_eq_true rfl⟩) rfl rfl 11 6 rfl rfl rfl rfl hl.1 rfl (Nat.le_of_ble_eq_true rfl) dX3_behindNumber_34 ⟨Nat.zero_le _, Nat.zero_le _⟩ (fun H locs hP hS => ?_)
          refine lv_bipush (v := (48 : Int32)) hx hb dX3_behindNumber_37 (by decide) ?_
          refine lv_isub hx hb dX3_behindNumber_39 ?_
          refine lv_iadd hx hb dX3_behindNumber_40 ?_
          refine lv_istore (lv' := [(5, .int ((v1 * (10 : Int32)) + (r9 - (48 : Int32)))), (6, .int v2), (0, .ref ar), (1, .ref ay), (2, .int i), (3, .int j), (4, .int w)]) hx hb dX3_behindNumber_41 hl (by decide) rfl (fun ls hl => ?_)
          refine lv_iinc (v := (v2 + (1 : Int32))) (lv' := [(6, .int (v2 + (1 : Int32))), (5, .int ((v1 * (10 : Int32)) + (r9 - (48 : Int32)))), (0, .ref ar), (1, .ref ay), (2, .int i), (3, .int j), (4, .int w)]) hx hb dX3_behindNumber_43 hl (k := 1) rfl (by first | rfl | decide) (by decide) rfl (fun ls hl => ?_)
          refine lv_goto (tgt := 6) hx hb dX3_behindNumber_46 (by decide) ?_
          exact ih6 ((v1 * (10 : Int32)) + (r9 - (48 : Int32))) (v2 + (1 : Int32)) _ _ hP hD hS _ (lv_sub hl [0, 1, 2, 3, 4, 5, 6] rfl) hF
  refine hL6 _ (fun v1 v2 H locs hP hD hS ls hl hF => ?_) 20000 (0 : Int32) i _ _ hP hD hS _ (lv_sub hl [0, 1, 2, 3, 4, 5, 6] rfl) hF
  refine lv_iload hx hb dX3_behindNumber_49 (lv_at hl 0 rfl) ?_
  refine lv_iload_n hx hb dX3_behindNumber_51 rfl (lv_at hl 4 rfl) ?_
  refine lv_icmp_eq (tgt := 66) hx hb dX3_behindNumber_52 (by decide) (fun c11 => ?_) (fun c11 => ?_)
  · have hF := op_pos c11 hF
    refine lv_bipush (v := (-4 : Int32)) hx hb dX3_behindNumber_66 (by decide) ?_
    cases hF
    rw [hQ]
    exact xri hC hP hS dX3_behindNumber_68
  · have hF := op_neg c11 hF
    refine lv_aload_n hx hb dX3_behindNumber_55 rfl (lv_at hl 3 rfl) ?_
    refine lv_iload hx hb dX3_behindNumber_56 (lv_at hl 0 rfl) ?_
    obtain ⟨r12, hb13, hF⟩ := op_bind hF
    refine xVr (As := [.int v2]) (rest := []) hC hP hD hS [11, 12] (c_X6_letterAt l D cI cC cM ay ayl ylen ylet v2 r12 hb13) (cwV 1 hts gX3_behindNumber_X6_letterAt rfl rfl rfl ⟨rfl, pd_X6_letterAt⟩ ⟨Nat.le_of_ble_eq_true rfl, Nat.le_of_ble_eq_true rfl⟩) rfl rfl 11 6 rfl rfl rfl rfl hl.1 rfl (Nat.le_of_ble_eq_true rfl) dX3_behindNumber_58 ⟨Nat.zero_le _, Nat.zero_le _⟩ (fun H locs hP hS => ?_)
    refine lv_iload hx hb dX3_behindNumber_61 (lv_at hl 6 rfl) ?_
    refine lv_icmp_eq (tgt := 69) hx hb dX3_behindNumber_63 (by decide) (fun c14 => ?_) (fun c14 => ?_)
    · have hF := op_pos c14 hF
      refine lv_aload_n hx hb dX3_behindNumber_69 rfl (lv_at hl 2 rfl) ?_
      refine va_get (D := D) (ci := 3) (v := .ref arn) (C := RX3) (T := TX3) (N := 3) hx hb hts iX3 hown hK hP 0 rfl rfl 2 (by decide) k_f27 (fun _ h9 => h9) rfl dX3_behindNumber_70 ?_
      refine lv_iload_n hx hb dX3_behindNumber_73 rfl (lv_at hl 5 rfl) ?_
      refine lv_iload hx hb dX3_behindNumber_74 (lv_at hl 1 rfl) ?_
      obtain ⟨f_15, hb16, hF⟩ := op_bind hF
      refine xNv (As := [.ref arn, .int j, .int v1]) (rest := []) hC hP hD hS [1] (c_X7_put l D cI cC cM arn 3 rnum j v1 f_15 hb16) ⟨va_cnB 3 hts gX3_behindNumber_X7_put_n76 rfl rfl rfl (hG.nw 6 rfl) k_in_X7 pd_X7_put ⟨Nat.le_of_ble_eq_true rfl, Nat.le_of_ble_eq_true rfl⟩, k_st_put, trivial⟩ rfl rfl rfl rfl hl.1 rfl (Nat.le_of_ble_eq_true rfl) dX3_behindNumber_76 ⟨Nat.zero_le _, Nat.zero_le _⟩ (fun H locs hP hD hS => ?_)
      have hP : va_P D vwCl [(ar, .inr (3, [.ref arp, .ref arm, .ref arn])), (arn, .inl (cI, 3, .inl f_15)), (arp, .inr (2, [.int rpsq, .int rppa, .int rppe, .int rpwo, .ref arpk, .ref arpq, .ref arpr])), (arpk, .inl (cI, 6, .inl rpkind)), (arpq, .inl (cI, 6, .inl rpwsq)), (arpr, .inl (cI, 6, .inl rpwhr)), (arm, .inr (1, [.ref arp, .int rmgone, .int rmmet, .int rmstill, .int rmdone, .ref armh, .ref armw, .ref arms, .ref armu])), (armh, .inl (cI, 6, .inl rmhour)), (armw, .inl (cI, 6, .inl rmworn)), (arms, .inl (cI, 5, .inl rmsquare)), (armu, .inl (cI, 5, .inl rmunder)), (ay, .inr (6, [.ref ayl, .int ylen])), (ayl, .inl (cC, 200, .inl ylet))] H := hP
      have hD : va_D A [(ar, .inr (3, [.ref arp, .ref arm, .ref arn])), (arn, .inl (cI, 3, .inl f_15)), (arp, .inr (2, [.int rpsq, .int rppa, .int rppe, .int rpwo, .ref arpk, .ref arpq, .ref arpr])), (arpk, .inl (cI, 6, .inl rpkind)), (arpq, .inl (cI, 6, .inl rpwsq)), (arpr, .inl (cI, 6, .inl rpwhr)), (arm, .inr (1, [.ref arp, .int rmgone, .int rmmet, .int rmstill, .int rmdone, .ref armh, .ref armw, .ref arms, .ref armu])), (armh, .inl (cI, 6, .inl rmhour)), (armw, .inl (cI, 6, .inl rmworn)), (arms, .inl (cI, 5, .inl rmsquare)), (armu, .inl (cI, 5, .inl rmunder)), (ay, .inr (6, [.ref ayl, .int ylen])), (ayl, .inl (cC, 200, .inl ylet))] := hD
      refine lv_iload hx hb dX3_behindNumber_79 (lv_at hl 0 rfl) ?_
      refine lv_iconst (v := (1 : Int32)) hx hb dX3_behindNumber_81 (by decide) ?_
      refine lv_iadd hx hb dX3_behindNumber_82 ?_
      cases hF
      rw [hQ]
      exact xri hC hP hS dX3_behindNumber_83
    · have hF := op_neg c14 hF
      refine lv_bipush (v := (-4 : Int32)) hx hb dX3_behindNumber_66 (by decide) ?_
      cases hF
      rw [hQ]
      exact xri hC hP hS dX3_behindNumber_68

def f_X3_acceptsSquares (rnum : (Nat → Int32)) (rpsq : Int32) (rppa : Int32) (rppe : Int32) (rpwo : Int32) : Option (Int32 × Int32) := (Option.bind (f_X7_at 3 rnum (0 : Int32)) fun r1 => (if r1 < (1 : Int32) then (some ((0 : Int32), rpsq)) else (if (9 : Int32) < r1 then (some ((0 : Int32), rpsq)) else (if ((rppa + rppe) + rpwo) ≤ 0 then (some ((1 : Int32), r1)) else (some ((0 : Int32), rpsq))))))

def rm_X3_acceptsSquares : Room := { frames := 1, cells := 0, slots := 0, locals := 21 }

theorem pd_X3_acceptsSquares : yX3_acceptsSquares.cls ≠ "java/lang/invoke/MethodHandle" ∧ yX3_acceptsSquares.cls ≠ "java/lang/invoke/VarHandle" ∧ (parseMethodDescriptor yX3_acceptsSquares.desc).map (fun d => d.parameters.length) = some 0 := by decide +kernel

set_option maxHeartbeats 4000000 in
set_option maxRecDepth 100000 in
theorem c_X3_acceptsSquares (l : Launch) (D : va_G) (cI cC cM : ClassId) (ar arn arp arpk arpq arpr arm armh armw arms armu : Nat) (rnum : (Nat → Int32)) (rpsq : Int32) (rppa : Int32) (rppe : Int32) (rpwo : Int32) (rpkind : (Nat → Int32)) (rpwsq : (Nat → Int32)) (rpwhr : (Nat → Int32)) (rmgone : Int32) (rmmet : Int32) (rmstill : Int32) (rmdone : Int32) (rmhour : (Nat → Int32)) (rmworn : (Nat → Int32)) (rmsquare : (Nat → Int32)) (rmunder : (Nat → Int32)) (rr : Int32) (rpsq' : Int32) (hF : f_X3_acceptsSquares rnum rpsq rppa rppe rpwo = some (rr, rpsq')) : CI l D cI cC cM yX3_acceptsSquares wsX3_acceptsSquares rm_X3_acceptsSquares [.ref ar] [(ar, .inr (3, [.ref arp, .ref arm, .ref arn])), (arn, .inl (cI, 3, .inl rnum)), (arp, .inr (2, [.int rpsq, .int rppa, .int rppe, .int rpwo, .ref arpk, .ref arpq, .ref arpr])), (arpk, .inl (cI, 6, .inl rpkind)), (arpq, .inl (cI, 6, .inl rpwsq)), (arpr, .inl (cI, 6, .inl rpwhr)), (arm, .inr (1, [.ref arp, .int rmgone, .int rmmet, .int rmstill, .int rmdone, .ref armh, .ref armw, .ref arms, .ref armu])), (armh, .inl (cI, 6, .inl rmhour)), (armw, .inl (cI, 6, .inl rmworn)), (arms, .inl (cI, 5, .inl rmsquare)), (armu, .inl (cI, 5, .inl rmunder))] [(ar, .inr (3, [.ref arp, .ref arm, .ref arn])), (arn, .inl (cI, 3, .inl rnum)), (arp, .inr (2, [.int rpsq', .int rppa, .int rppe, .int rpwo, .ref arpk, .ref arpq, .ref arpr])), (arpk, .inl (cI, 6, .inl rpkind)), (arpq, .inl (cI, 6, .inl rpwsq)), (arpr, .inl (cI, 6, .inl rpwhr)), (arm, .inr (1, [.ref arp, .int rmgone, .int rmmet, .int rmstill, .int rmdone, .ref armh, .ref armw, .ref arms, .ref armu])), (armh, .inl (cI, 6, .inl rmhour)), (armw, .inl (cI, 6, .inl rmworn)), (arms, .inl (cI, 5, .inl rmsquare)), (armu, .inl (cI, 5, .inl rmunder))] rr := by
  refine CI.of (cc := cX3_acceptsSquares) (nL := 2) (ret := (some .boolean)) (by decide) rfl (Nat.le_of_ble_eq_true rfl) ?_
  intro p e s m args below meth c A hC hP hD hS ls hl
  obtain ⟨hx, hb, hml, hown, hts, hr, hlk, hG, hA⟩ := id hC
  have hown : s.vm.findClass RX3 = some m.cls := hown
  have hK := hG.1
  have hl : lv_has ls 2 [(0, .ref ar)] := hl
  have k_f27 := hts (.fieldLink RX3 27 "ParasolHours$Reader" "numbers" "[I") (List.mem_of_getElem? (i := 1) rfl)
  have k_st_at := hts (.static yX7_at) (List.mem_of_getElem? (i := 7) rfl)
  have k_in_X7 := hts (.initialized RX7) (List.mem_of_getElem? (i := 8) rfl)
  have k_f12 := hts (.fieldLink RX3 12 "ParasolHours$Reader" "plan" "LParasolHours$Plan;") (List.mem_of_getElem? (i := 2) rfl)
  have k_f47 := hts (.fieldLink RX3 47 "ParasolHours$Plan" "parasols" "I") (List.mem_of_getElem? (i := 3) rfl)
  have k_f50 := hts (.fieldLink RX3 50 "ParasolHours$Plan" "persons" "I") (List.mem_of_getElem? (i := 4) rfl)
  have k_f53 := hts (.fieldLink RX3 53 "ParasolHours$Plan" "works" "I") (List.mem_of_getElem? (i := 5) rfl)
  have k_f44 := hts (.fieldLink RX3 44 "ParasolHours$Plan" "squares" "I") (List.mem_of_getElem? (i := 6) rfl)
  have iX2 : ∀ w ∈ wsX20, w ∈ wsX3_acceptsSquares := by decide +kernel
  have iX3 : ∀ w ∈ wsX30, w ∈ wsX3_acceptsSquares := by decide +kernel
  obtain ⟨Q, hQ⟩ : ∃ Q, Q = MQ below (QI D [(ar, .inr (3, [.ref arp, .ref arm, .ref arn])), (arn, .inl (cI, 3, .inl rnum)), (arp, .inr (2, [.int rpsq', .int rppa, .int rppe, .int rpwo, .ref arpk, .ref arpq, .ref arpr])), (arpk, .inl (cI, 6, .inl rpkind)), (arpq, .inl (cI, 6, .inl rpwsq)), (arpr, .inl (cI, 6, .inl rpwhr)), (arm, .inr (1, [.ref arp, .int rmgone, .int rmmet, .int rmstill, .int rmdone, .ref armh, .ref armw, .ref arms, .ref armu])), (armh, .inl (cI, 6, .inl rmhour)), (armw, .inl (cI, 6, .inl rmworn)), (arms, .inl (cI, 5, .inl rmsquare)), (armu, .inl (cI, 5, .inl rmunder))] rr A) args s 0 0 A := ⟨_, rfl⟩
  rw [← hQ]
  unfold f_X3_acceptsSquares at hF
  refine lv_aload_n hx hb dX3_acceptsSquares_0 rfl (lv_at hl 0 rfl) ?_
  refine va_get (D := D) (ci := 3) (v := .ref arn) (C := RX3) (T := TX3) (N := 3) hx hb hts iX3 hown hK hP 0 rfl rfl 2 (by decide) k_f27 (fun _ h9 => h9) rfl dX3_acceptsSquares_1 ?_
  refine lv_iconst (v := (0 : Int32)) hx hb dX3_acceptsSquares_4 (by decide) ?_
  obtain ⟨r1, hb2, hF⟩ := op_bind hF
  refine xNr (As := [.ref arn, .int (0 : Int32)]) (rest := []) hC hP hD hS [1] (c_X7_at l D cI cC cM arn 3 rnum (0 : Int32) r1 hb2) ⟨va_cnB 2 hts gX3_acceptsSquares_X7_at_n93 rfl rfl rfl (hG.nw 7 rfl) k_in_X7 pd_X7_at ⟨Nat.le_of_ble_eq_true rfl, Nat.le_of_ble_eq_true rfl⟩, k_st_at, trivial⟩ rfl rfl rfl hl.1 rfl (Nat.le_of_ble_eq_true rfl) dX3_acceptsSquares_5 ⟨Nat.zero_le _, Nat.zero_le _⟩ (fun H locs hP hS => ?_)
  refine lv_istore_n (lv' := [(1, .int r1), (0, .ref ar)]) hx hb dX3_acceptsSquares_8 rfl hl (by decide) rfl (fun ls hl => ?_)
  refine lv_iload_n hx hb dX3_acceptsSquares_9 rfl (lv_at hl 0 rfl) ?_
  refine lv_iconst (v := (1 : Int32)) hx hb dX3_acceptsSquares_10 (by decide) ?_
  refine lv_icmp_lt (tgt := 46) hx hb dX3_acceptsSquares_11 (by decide) (fun c3 => ?_) (fun c3 => ?_)
  · have hF := op_pos c3 hF
    refine lv_iconst (v := (0 : Int32)) hx hb dX3_acceptsSquares_46 (by decide) ?_
    cases hF
    rw [hQ]
    exact xrz hC rfl hP hS dX3_acceptsSquares_47
  · have hF := op_neg c3 hF
    refine lv_iload_n hx hb dX3_acceptsSquares_14 rfl (lv_at hl 0 rfl) ?_
    refine lv_bipush (v := (9 : Int32)) hx hb dX3_acceptsSquares_15 (by decide) ?_
    refine lv_icmp_gt (tgt := 46) hx hb dX3_acceptsSquares_17 (by decide) (fun c4 => ?_) (fun c4 => ?_)
    · have hF := op_pos c4 hF
      refine lv_iconst (v := (0 : Int32)) hx hb dX3_acceptsSquares_46 (by decide) ?_
      cases hF
      rw [hQ]
      exact xrz hC rfl hP hS dX3_acceptsSquares_47
    · have hF := op_neg c4 hF
      refine lv_aload_n hx hb dX3_acceptsSquares_20 rfl (lv_at hl 1 rfl) ?_
      refine va_get (D := D) (ci := 3) (v := .ref arp) (C := RX3) (T := TX3) (N := 3) hx hb hts iX3 hown hK hP 0 rfl rfl 0 (by decide) k_f12 (fun _ h9 => h9) rfl dX3_acceptsSquares_21 ?_
      refine va_get (D := D) (ci := 2) (v := .int rppa) (C := RX2) (T := TX2) (N := 7) hx hb hts iX2 hown hK hP 2 rfl rfl 1 (by decide) k_f47 (fun _ h9 => h9) rfl dX3_acceptsSquares_24 ?_
      refine lv_aload_n hx hb dX3_acceptsSquares_27 rfl (lv_at hl 1 rfl) ?_
      refine va_get (D := D) (ci := 3) (v := .ref arp) (C := RX3) (T := TX3) (N := 3) hx hb hts iX3 hown hK hP 0 rfl rfl 0 (by decide) k_f12 (fun _ h9 => h9) rfl dX3_acceptsSquares_28 ?_
      refine va_get (D := D) (ci := 2) (v := .int rppe) (C := RX2) (T := TX2) (N := 7) hx hb hts iX2 hown hK hP 2 rfl rfl 2 (by decide) k_f50 (fun _ h9 => h9) rfl dX3_acceptsSquares_31 ?_
      refine lv_iadd hx hb dX3_acceptsSquares_34 ?_
      refine lv_aload_n hx hb dX3_acceptsSquares_35 rfl (lv_at hl 1 rfl) ?_
      refine va_get (D := D) (ci := 3) (v := .ref arp) (C := RX3) (T := TX3) (N := 3) hx hb hts iX3 hown hK hP 0 rfl rfl 0 (by decide) k_f12 (fun _ h9 => h9) rfl dX3_acceptsSquares_36 ?_
      refine va_get (D := D) (ci := 2) (v := .int rpwo) (C := RX2) (T := TX2) (N := 7) hx hb hts iX2 hown hK hP 2 rfl rfl 3 (by decide) k_f53 (fun _ h9 => h9) rfl dX3_acceptsSquares_39 ?_
      refine lv_iadd hx hb dX3_acceptsSquares_42 ?_
      refine lv_if_le (tgt := 48) hx hb dX3_acceptsSquares_43 (by decide) (fun c5 => ?_) (fun c5 => ?_)
      · have hF := op_pos c5 hF
        refine lv_aload_n hx hb dX3_acceptsSquares_48 rfl (lv_at hl 1 rfl) ?_
        refine va_get (D := D) (ci := 3) (v := .ref arp) (C := RX3) (T := TX3) (N := 3) hx hb hts iX3 hown hK hP 0 rfl rfl 0 (by decide) k_f12 (fun _ h9 => h9) rfl dX3_acceptsSquares_49 ?_
        refine lv_iload_n hx hb dX3_acceptsSquares_52 rfl (lv_at hl 0 rfl) ?_
        refine va_put (D := D) (ci := 2) (v := .int r1) (ty := .int) (C := RX2) (T := TX2) (N := 7) hx hb hts iX2 tyX2 tyX2_ok nmX2 hown hK hP hD hS 2 rfl rfl 0 (by decide) k_f44 (fun _ h9 => h9) rfl (by decide +kernel) rfl rfl (Nat.le_of_ble_eq_true rfl) dX3_acceptsSquares_53 (fun H locs hP hD hS => ?_)
        have hP : va_P D vwCl [(ar, .inr (3, [.ref arp, .ref arm, .ref arn])), (arn, .inl (cI, 3, .inl rnum)), (arp, .inr (2, [.int r1, .int rppa, .int rppe, .int rpwo, .ref arpk, .ref arpq, .ref arpr])), (arpk, .inl (cI, 6, .inl rpkind)), (arpq, .inl (cI, 6, .inl rpwsq)), (arpr, .inl (cI, 6, .inl rpwhr)), (arm, .inr (1, [.ref arp, .int rmgone, .int rmmet, .int rmstill, .int rmdone, .ref armh, .ref armw, .ref arms, .ref armu])), (armh, .inl (cI, 6, .inl rmhour)), (armw, .inl (cI, 6, .inl rmworn)), (arms, .inl (cI, 5, .inl rmsquare)), (armu, .inl (cI, 5, .inl rmunder))] H := hP
        have hD : va_D A [(ar, .inr (3, [.ref arp, .ref arm, .ref arn])), (arn, .inl (cI, 3, .inl rnum)), (arp, .inr (2, [.int r1, .int rppa, .int rppe, .int rpwo, .ref arpk, .ref arpq, .ref arpr])), (arpk, .inl (cI, 6, .inl rpkind)), (arpq, .inl (cI, 6, .inl rpwsq)), (arpr, .inl (cI, 6, .inl rpwhr)), (arm, .inr (1, [.ref arp, .int rmgone, .int rmmet, .int rmstill, .int rmdone, .ref armh, .ref armw, .ref arms, .ref armu])), (armh, .inl (cI, 6, .inl rmhour)), (armw, .inl (cI, 6, .inl rmworn)), (arms, .inl (cI, 5, .inl rmsquare)), (armu, .inl (cI, 5, .inl rmunder))] := hD
        refine lv_iconst (v := (1 : Int32)) hx hb dX3_acceptsSquares_56 (by decide) ?_
        cases hF
        rw [hQ]
        exact xrz hC rfl hP hS dX3_acceptsSquares_57
      · have hF := op_neg c5 hF
        refine lv_iconst (v := (0 : Int32)) hx hb dX3_acceptsSquares_46 (by decide) ?_
        cases hF
        rw [hQ]
        exact xrz hC rfl hP hS dX3_acceptsSquares_47

def f_X3_acceptsParasol (rnum : (Nat → Int32)) (rppa : Int32) (rpkind : (Nat → Int32)) (rmhour : (Nat → Int32)) (rmworn : (Nat → Int32)) : Option (Int32 × Int32 × (Nat → Int32) × (Nat → Int32) × (Nat → Int32)) := (Option.bind (f_X7_at 3 rnum (0 : Int32)) fun r1 => (Option.bind (f_X7_at 3 rnum (1 : Int32)) fun r3 => (Option.bind (f_X7_at 3 rnum (2 : Int32)) fun r5 => (if (3 : Int32) < r1 then (some ((0 : Int32), rppa, rpkind, rmhour, rmworn)) else (Option.bind (f_X7_isHour r3) fun r8 => (if r8 = 0 then (some ((0 : Int32), rppa, rpkind, rmhour, rmworn)) else (if (12 : Int32) < r5 then (some ((0 : Int32), rppa, rpkind, rmhour, rmworn)) else (if rppa < (6 : Int32) then (Option.bind (f_X7_put 6 rpkind rppa r1) fun f_13 => (Option.bind (f_X7_put 6 rmhour rppa r3) fun f_15 => (Option.bind (f_X7_put 6 rmworn rppa r5) fun f_17 => (some ((1 : Int32), (rppa + (1 : Int32)), f_13, f_15, f_17))))) else (some ((0 : Int32), rppa, rpkind, rmhour, rmworn))))))))))

def rm_X3_acceptsParasol : Room := { frames := 1, cells := 0, slots := 0, locals := 22 }

theorem pd_X3_acceptsParasol : yX3_acceptsParasol.cls ≠ "java/lang/invoke/MethodHandle" ∧ yX3_acceptsParasol.cls ≠ "java/lang/invoke/VarHandle" ∧ (parseMethodDescriptor yX3_acceptsParasol.desc).map (fun d => d.parameters.length) = some 0 := by decide +kernel

set_option maxHeartbeats 4000000 in
set_option maxRecDepth 100000 in
theorem c_X3_acceptsParasol (l : Launch) (D : va_G) (cI cC cM : ClassId) (ar arn arp arpk arpq arpr arm armh armw arms armu : Nat) (rnum : (Nat → Int32)) (rpsq : Int32) (rppa : Int32) (rppe : Int32) (rpwo : Int32) (rpkind : (Nat → Int32)) (rpwsq : (Nat → Int32)) (rpwhr : (Nat → Int32)) (rmgone : Int32) (rmmet : Int32) (rmstill : Int32) (rmdone : Int32) (rmhour : (Nat → Int32)) (rmworn : (Nat → Int32)) (rmsquare : (Nat → Int32)) (rmunder : (Nat → Int32)) (rr : Int32) (rppa' : Int32) (rpkind' : (Nat → Int32)) (rmhour' : (Nat → Int32)) (rmworn' : (Nat → Int32)) (hF : f_X3_acceptsParasol rnum rppa rpkind rmhour rmworn = some (rr, rppa', rpkind', rmhour', rmworn')) : CI l D cI cC cM yX3_acceptsParasol wsX3_acceptsParasol rm_X3_acceptsParasol [.ref ar] [(ar, .inr (3, [.ref arp, .ref arm, .ref arn])), (arn, .inl (cI, 3, .inl rnum)), (arp, .inr (2, [.int rpsq, .int rppa, .int rppe, .int rpwo, .ref arpk, .ref arpq, .ref arpr])), (arpk, .inl (cI, 6, .inl rpkind)), (arpq, .inl (cI, 6, .inl rpwsq)), (arpr, .inl (cI, 6, .inl rpwhr)), (arm, .inr (1, [.ref arp, .int rmgone, .int rmmet, .int rmstill, .int rmdone, .ref armh, .ref armw, .ref arms, .ref armu])), (armh, .inl (cI, 6, .inl rmhour)), (armw, .inl (cI, 6, .inl rmworn)), (arms, .inl (cI, 5, .inl rmsquare)), (armu, .inl (cI, 5, .inl rmunder))] [(ar, .inr (3, [.ref arp, .ref arm, .ref arn])), (arn, .inl (cI, 3, .inl rnum)), (arp, .inr (2, [.int rpsq, .int rppa', .int rppe, .int rpwo, .ref arpk, .ref arpq, .ref arpr])), (arpk, .inl (cI, 6, .inl rpkind')), (arpq, .inl (cI, 6, .inl rpwsq)), (arpr, .inl (cI, 6, .inl rpwhr)), (arm, .inr (1, [.ref arp, .int rmgone, .int rmmet, .int rmstill, .int rmdone, .ref armh, .ref armw, .ref arms, .ref armu])), (armh, .inl (cI, 6, .inl rmhour')), (armw, .inl (cI, 6, .inl rmworn')), (arms, .inl (cI, 5, .inl rmsquare)), (armu, .inl (cI, 5, .inl rmunder))] rr := by
  refine CI.of (cc := cX3_acceptsParasol) (nL := 4) (ret := (some .boolean)) (by decide) rfl (Nat.le_of_ble_eq_true rfl) ?_
  intro p e s m args below meth c A hC hP hD hS ls hl
  obtain ⟨hx, hb, hml, hown, hts, hr, hlk, hG, hA⟩ := id hC
  have hown : s.vm.findClass RX3 = some m.cls := hown
  have hK := hG.1
  have hl : lv_has ls 4 [(0, .ref ar)] := hl
  have k_f27 := hts (.fieldLink RX3 27 "ParasolHours$Reader" "numbers" "[I") (List.mem_of_getElem? (i := 1) rfl)
  have k_st_at := hts (.static yX7_at) (List.mem_of_getElem? (i := 8) rfl)
  have k_in_X7 := hts (.initialized RX7) (List.mem_of_getElem? (i := 9) rfl)
  have k_st_isHour := hts (.static yX7_isHour) (List.mem_of_getElem? (i := 11) rfl)
  have k_f12 := hts (.fieldLink RX3 12 "ParasolHours$Reader" "plan" "LParasolHours$Plan;") (List.mem_of_getElem? (i := 2) rfl)
  have k_f47 := hts (.fieldLink RX3 47 "ParasolHours$Plan" "parasols" "I") (List.mem_of_getElem? (i := 3) rfl)
  have k_f101 := hts (.fieldLink RX3 101 "ParasolHours$Plan" "kind" "[I") (List.mem_of_getElem? (i := 4) rfl)
  have k_st_put := hts (.static yX7_put) (List.mem_of_getElem? (i := 13) rfl)
  have k_f23 := hts (.fieldLink RX3 23 "ParasolHours$Reader" "start" "LParasolHours$Moment;") (List.mem_of_getElem? (i := 5) rfl)
  have k_f104 := hts (.fieldLink RX3 104 "ParasolHours$Moment" "hour" "[I") (List.mem_of_getElem? (i := 6) rfl)
  have k_f107 := hts (.fieldLink RX3 107 "ParasolHours$Moment" "worn" "[I") (List.mem_of_getElem? (i := 7) rfl)
  have iX1 : ∀ w ∈ wsX10, w ∈ wsX3_acceptsParasol := by decide +kernel
  have iX2 : ∀ w ∈ wsX20, w ∈ wsX3_acceptsParasol := by decide +kernel
  have iX3 : ∀ w ∈ wsX30, w ∈ wsX3_acceptsParasol := by decide +kernel
  obtain ⟨Q, hQ⟩ : ∃ Q, Q = MQ below (QI D [(ar, .inr (3, [.ref arp, .ref arm, .ref arn])), (arn, .inl (cI, 3, .inl rnum)), (arp, .inr (2, [.int rpsq, .int rppa', .int rppe, .int rpwo, .ref arpk, .ref arpq, .ref arpr])), (arpk, .inl (cI, 6, .inl rpkind')), (arpq, .inl (cI, 6, .inl rpwsq)), (arpr, .inl (cI, 6, .inl rpwhr)), (arm, .inr (1, [.ref arp, .int rmgone, .int rmmet, .int rmstill, .int rmdone, .ref armh, .ref armw, .ref arms, .ref armu])), (armh, .inl (cI, 6, .inl rmhour')), (armw, .inl (cI, 6, .inl rmworn')), (arms, .inl (cI, 5, .inl rmsquare)), (armu, .inl (cI, 5, .inl rmunder))] rr A) args s 0 0 A := ⟨_, rfl⟩
  rw [← hQ]
  unfold f_X3_acceptsParasol at hF
  refine lv_aload_n hx hb dX3_acceptsParasol_0 rfl (lv_at hl 0 rfl) ?_
  refine va_get (D := D) (ci := 3) (v := .ref arn) (C := RX3) (T := TX3) (N := 3) hx hb hts iX3 hown hK hP 0 rfl rfl 2 (by decide) k_f27 (fun _ h9 => h9) rfl dX3_acceptsParasol_1 ?_
  refine lv_iconst (v := (0 : Int32)) hx hb dX3_acceptsParasol_4 (by decide) ?_
  obtain ⟨r1, hb2, hF⟩ := op_bind hF
  refine xNr (As := [.ref arn, .int (0 : Int32)]) (rest := []) hC hP hD hS [1] (c_X7_at l D cI cC cM arn 3 rnum (0 : Int32) r1 hb2) ⟨va_cnB 2 hts gX3_acceptsParasol_X7_at_n93 rfl rfl rfl (hG.nw 7 rfl) k_in_X7 pd_X7_at ⟨Nat.le_of_ble_eq_true rfl, Nat.le_of_ble_eq_true rfl⟩, k_st_at, trivial⟩ rfl rfl rfl hl.1 rfl (Nat.le_of_ble_eq_true rfl) dX3_acceptsParasol_5 ⟨Nat.zero_le _, Nat.zero_le _⟩ (fun H locs hP hS => ?_)
  refine lv_istore_n (lv' := [(1, .int r1), (0, .ref ar)]) hx hb dX3_acceptsParasol_8 rfl hl (by decide) rfl (fun ls hl => ?_)
  refine lv_aload_n hx hb dX3_acceptsParasol_9 rfl (lv_at hl 1 rfl) ?_
  refine va_get (D := D) (ci := 3) (v := .ref arn) (C := RX3) (T := TX3) (N := 3) hx hb hts iX3 hown hK hP 0 rfl rfl 2 (by decide) k_f27 (fun _ h9 => h9) rfl dX3_acceptsParasol_10 ?_
  refine lv_iconst (v := (1 : Int32)) hx hb dX3_acceptsParasol_13 (by decide) ?_
  obtain ⟨r3, hb4, hF⟩ := op_bind hF
  refine xNr (As := [.ref arn, .int (1 : Int32)]) (rest := []) hC hP hD hS [1] (c_X7_at l D cI cC cM arn 3 rnum (1 : Int32) r3 hb4) ⟨va_cnB 2 hts gX3_acceptsParasol_X7_at_n93 rfl rfl rfl (hG.nw 7 rfl) k_in_X7 pd_X7_at ⟨Nat.le_of_ble_eq_true rfl, Nat.le_of_ble_eq_true rfl⟩, k_st_at, trivial⟩ rfl rfl rfl hl.1 rfl (Nat.le_of_ble_eq_true rfl) dX3_acceptsParasol_14 ⟨Nat.zero_le _, Nat.zero_le _⟩ (fun H locs hP hS => ?_)
  refine lv_istore_n (lv' := [(2, .int r3), (1, .int r1), (0, .ref ar)]) hx hb dX3_acceptsParasol_17 rfl hl (by decide) rfl (fun ls hl => ?_)
  refine lv_aload_n hx hb dX3_acceptsParasol_18 rfl (lv_at hl 2 rfl) ?_
  refine va_get (D := D) (ci := 3) (v := .ref arn) (C := RX3) (T := TX3) (N := 3) hx hb hts iX3 hown hK hP 0 rfl rfl 2 (by decide) k_f27 (fun _ h9 => h9) rfl dX3_acceptsParasol_19 ?_
  refine lv_iconst (v := (2 : Int32)) hx hb dX3_acceptsParasol_22 (by decide) ?_
  obtain ⟨r5, hb6, hF⟩ := op_bind hF
  refine xNr (As := [.ref arn, .int (2 : Int32)]) (rest := []) hC hP hD hS [1] (c_X7_at l D cI cC cM arn 3 rnum (2 : Int32) r5 hb6) ⟨va_cnB 2 hts gX3_acceptsParasol_X7_at_n93 rfl rfl rfl (hG.nw 7 rfl) k_in_X7 pd_X7_at ⟨Nat.le_of_ble_eq_true rfl, Nat.le_of_ble_eq_true rfl⟩, k_st_at, trivial⟩ rfl rfl rfl hl.1 rfl (Nat.le_of_ble_eq_true rfl) dX3_acceptsParasol_23 ⟨Nat.zero_le _, Nat.zero_le _⟩ (fun H locs hP hS => ?_)
  refine lv_istore_n (lv' := [(3, .int r5), (2, .int r3), (1, .int r1), (0, .ref ar)]) hx hb dX3_acceptsParasol_26 rfl hl (by decide) rfl (fun ls hl => ?_)
  refine lv_iload_n hx hb dX3_acceptsParasol_27 rfl (lv_at hl 2 rfl) ?_
  refine lv_iconst (v := (3 : Int32)) hx hb dX3_acceptsParasol_28 (by decide) ?_
  refine lv_icmp_gt (tgt := 57) hx hb dX3_acceptsParasol_29 (by decide) (fun c7 => ?_) (fun c7 => ?_)
  · have hF := op_pos c7 hF
    refine lv_iconst (v := (0 : Int32)) hx hb dX3_acceptsParasol_57 (by decide) ?_
    cases hF
    rw [hQ]
    exact xrz hC rfl hP hS dX3_acceptsParasol_58
  · have hF := op_neg c7 hF
    refine lv_iload_n hx hb dX3_acceptsParasol_32 rfl (lv_at hl 1 rfl) ?_
    obtain ⟨r8, hb9, hF⟩ := op_bind hF
    refine xNr (As := [.int r3]) (rest := []) hC hP hD hS [] (c_X7_isHour l D cI cC cM r3 r8 hb9) ⟨va_cnB 1 hts gX3_acceptsParasol_X7_isHour_n97 rfl rfl rfl (hG.nw 8 rfl) k_in_X7 pd_X7_isHour ⟨Nat.le_of_ble_eq_true rfl, Nat.le_of_ble_eq_true rfl⟩, k_st_isHour, trivial⟩ rfl rfl rfl hl.1 rfl (Nat.le_of_ble_eq_true rfl) dX3_acceptsParasol_33 ⟨Nat.zero_le _, Nat.zero_le _⟩ (fun H locs hP hS => ?_)
    refine lv_if_eq (tgt := 57) hx hb dX3_acceptsParasol_36 (by decide) (fun c10 => ?_) (fun c10 => ?_)
    · have hF := op_pos c10 hF
      refine lv_iconst (v := (0 : Int32)) hx hb dX3_acceptsParasol_57 (by decide) ?_
      cases hF
      rw [hQ]
      exact xrz hC rfl hP hS dX3_acceptsParasol_58
    · have hF := op_neg c10 hF
      refine lv_iload_n hx hb dX3_acceptsParasol_39 rfl (lv_at hl 0 rfl) ?_
      refine lv_bipush (v := (12 : Int32)) hx hb dX3_acceptsParasol_40 (by decide) ?_
      refine lv_icmp_gt (tgt := 57) hx hb dX3_acceptsParasol_42 (by decide) (fun c11 => ?_) (fun c11 => ?_)
      · have hF := op_pos c11 hF
        refine lv_iconst (v := (0 : Int32)) hx hb dX3_acceptsParasol_57 (by decide) ?_
        cases hF
        rw [hQ]
        exact xrz hC rfl hP hS dX3_acceptsParasol_58
      · have hF := op_neg c11 hF
        refine lv_aload_n hx hb dX3_acceptsParasol_45 rfl (lv_at hl 3 rfl) ?_
        refine va_get (D := D) (ci := 3) (v := .ref arp) (C := RX3) (T := TX3) (N := 3) hx hb hts iX3 hown hK hP 0 rfl rfl 0 (by decide) k_f12 (fun _ h9 => h9) rfl dX3_acceptsParasol_46 ?_
        refine va_get (D := D) (ci := 2) (v := .int rppa) (C := RX2) (T := TX2) (N := 7) hx hb hts iX2 hown hK hP 2 rfl rfl 1 (by decide) k_f47 (fun _ h9 => h9) rfl dX3_acceptsParasol_49 ?_
        refine lv_bipush (v := (6 : Int32)) hx hb dX3_acceptsParasol_52 (by decide) ?_
        refine lv_icmp_lt (tgt := 59) hx hb dX3_acceptsParasol_54 (by decide) (fun c12 => ?_) (fun c12 => ?_)
        · have hF := op_pos c12 hF
          refine lv_aload_n hx hb dX3_acceptsParasol_59 rfl (lv_at hl 3 rfl) ?_
          refine va_get (D := D) (ci := 3) (v := .ref arp) (C := RX3) (T := TX3) (N := 3) hx hb hts iX3 hown hK hP 0 rfl rfl 0 (by decide) k_f12 (fun _ h9 => h9) rfl dX3_acceptsParasol_60 ?_
          refine va_get (D := D) (ci := 2) (v := .ref arpk) (C := RX2) (T := TX2) (N := 7) hx hb hts iX2 hown hK hP 2 rfl rfl 4 (by decide) k_f101 (fun _ h9 => h9) rfl dX3_acceptsParasol_63 ?_
          refine lv_aload_n hx hb dX3_acceptsParasol_66 rfl (lv_at hl 3 rfl) ?_
          refine va_get (D := D) (ci := 3) (v := .ref arp) (C := RX3) (T := TX3) (N := 3) hx hb hts iX3 hown hK hP 0 rfl rfl 0 (by decide) k_f12 (fun _ h9 => h9) rfl dX3_acceptsParasol_67 ?_
          refine va_get (D := D) (ci := 2) (v := .int rppa) (C := RX2) (T := TX2) (N := 7) hx hb hts iX2 hown hK hP 2 rfl rfl 1 (by decide) k_f47 (fun _ h9 => h9) rfl dX3_acceptsParasol_70 ?_
          refine lv_iload_n hx hb dX3_acceptsParasol_73 rfl (lv_at hl 2 rfl) ?_
          obtain ⟨f_13, hb14, hF⟩ := op_bind hF
          refine xNv (As := [.ref arpk, .int rppa, .int r1]) (rest := []) hC hP hD hS [3] (c_X7_put l D cI cC cM arpk 6 rpkind rppa r1 f_13 hb14) ⟨va_cnB 3 hts gX3_acceptsParasol_X7_put_n76 rfl rfl rfl (hG.nw 6 rfl) k_in_X7 pd_X7_put ⟨Nat.le_of_ble_eq_true rfl, Nat.le_of_ble_eq_true rfl⟩, k_st_put, trivial⟩ rfl rfl rfl rfl hl.1 rfl (Nat.le_of_ble_eq_true rfl) dX3_acceptsParasol_74 ⟨Nat.zero_le _, Nat.zero_le _⟩ (fun H locs hP hD hS => ?_)
          have hP : va_P D vwCl [(ar, .inr (3, [.ref arp, .ref arm, .ref arn])), (arn, .inl (cI, 3, .inl rnum)), (arp, .inr (2, [.int rpsq, .int rppa, .int rppe, .int rpwo, .ref arpk, .ref arpq, .ref arpr])), (arpk, .inl (cI, 6, .inl f_13)), (arpq, .inl (cI, 6, .inl rpwsq)), (arpr, .inl (cI, 6, .inl rpwhr)), (arm, .inr (1, [.ref arp, .int rmgone, .int rmmet, .int rmstill, .int rmdone, .ref armh, .ref armw, .ref arms, .ref armu])), (armh, .inl (cI, 6, .inl rmhour)), (armw, .inl (cI, 6, .inl rmworn)), (arms, .inl (cI, 5, .inl rmsquare)), (armu, .inl (cI, 5, .inl rmunder))] H := hP
          have hD : va_D A [(ar, .inr (3, [.ref arp, .ref arm, .ref arn])), (arn, .inl (cI, 3, .inl rnum)), (arp, .inr (2, [.int rpsq, .int rppa, .int rppe, .int rpwo, .ref arpk, .ref arpq, .ref arpr])), (arpk, .inl (cI, 6, .inl f_13)), (arpq, .inl (cI, 6, .inl rpwsq)), (arpr, .inl (cI, 6, .inl rpwhr)), (arm, .inr (1, [.ref arp, .int rmgone, .int rmmet, .int rmstill, .int rmdone, .ref armh, .ref armw, .ref arms, .ref armu])), (armh, .inl (cI, 6, .inl rmhour)), (armw, .inl (cI, 6, .inl rmworn)), (arms, .inl (cI, 5, .inl rmsquare)), (armu, .inl (cI, 5, .inl rmunder))] := hD
          refine lv_aload_n hx hb dX3_acceptsParasol_77 rfl (lv_at hl 3 rfl) ?_
          refine va_get (D := D) (ci := 3) (v := .ref arm) (C := RX3) (T := TX3) (N := 3) hx hb hts iX3 hown hK hP 0 rfl rfl 1 (by decide) k_f23 (fun _ h9 => h9) rfl dX3_acceptsParasol_78 ?_
          refine va_get (D := D) (ci := 1) (v := .ref armh) (C := RX1) (T := TX1) (N := 9) hx hb hts iX1 hown hK hP 6 rfl rfl 5 (by decide) k_f104 (fun _ h9 => h9) rfl dX3_acceptsParasol_81 ?_
          refine lv_aload_n hx hb dX3_acceptsParasol_84 rfl (lv_at hl 3 rfl) ?_
          refine va_get (D := D) (ci := 3) (v := .ref arp) (C := RX3) (T := TX3) (N := 3) hx hb hts iX3 hown hK hP 0 rfl rfl 0 (by decide) k_f12 (fun _ h9 => h9) rfl dX3_acceptsParasol_85 ?_
          refine va_get (D := D) (ci := 2) (v := .int rppa) (C := RX2) (T := TX2) (N := 7) hx hb hts iX2 hown hK hP 2 rfl rfl 1 (by decide) k_f47 (fun _ h9 => h9) rfl dX3_acceptsParasol_88 ?_
          refine lv_iload_n hx hb dX3_acceptsParasol_91 rfl (lv_at hl 1 rfl) ?_
          obtain ⟨f_15, hb16, hF⟩ := op_bind hF
          refine xNv (As := [.ref armh, .int rppa, .int r3]) (rest := []) hC hP hD hS [7] (c_X7_put l D cI cC cM armh 6 rmhour rppa r3 f_15 hb16) ⟨va_cnB 3 hts gX3_acceptsParasol_X7_put_n76 rfl rfl rfl (hG.nw 6 rfl) k_in_X7 pd_X7_put ⟨Nat.le_of_ble_eq_true rfl, Nat.le_of_ble_eq_true rfl⟩, k_st_put, trivial⟩ rfl rfl rfl rfl hl.1 rfl (Nat.le_of_ble_eq_true rfl) dX3_acceptsParasol_92 ⟨Nat.zero_le _, Nat.zero_le _⟩ (fun H locs hP hD hS => ?_)
          have hP : va_P D vwCl [(ar, .inr (3, [.ref arp, .ref arm, .ref arn])), (arn, .inl (cI, 3, .inl rnum)), (arp, .inr (2, [.int rpsq, .int rppa, .int rppe, .int rpwo, .ref arpk, .ref arpq, .ref arpr])), (arpk, .inl (cI, 6, .inl f_13)), (arpq, .inl (cI, 6, .inl rpwsq)), (arpr, .inl (cI, 6, .inl rpwhr)), (arm, .inr (1, [.ref arp, .int rmgone, .int rmmet, .int rmstill, .int rmdone, .ref armh, .ref armw, .ref arms, .ref armu])), (armh, .inl (cI, 6, .inl f_15)), (armw, .inl (cI, 6, .inl rmworn)), (arms, .inl (cI, 5, .inl rmsquare)), (armu, .inl (cI, 5, .inl rmunder))] H := hP
          have hD : va_D A [(ar, .inr (3, [.ref arp, .ref arm, .ref arn])), (arn, .inl (cI, 3, .inl rnum)), (arp, .inr (2, [.int rpsq, .int rppa, .int rppe, .int rpwo, .ref arpk, .ref arpq, .ref arpr])), (arpk, .inl (cI, 6, .inl f_13)), (arpq, .inl (cI, 6, .inl rpwsq)), (arpr, .inl (cI, 6, .inl rpwhr)), (arm, .inr (1, [.ref arp, .int rmgone, .int rmmet, .int rmstill, .int rmdone, .ref armh, .ref armw, .ref arms, .ref armu])), (armh, .inl (cI, 6, .inl f_15)), (armw, .inl (cI, 6, .inl rmworn)), (arms, .inl (cI, 5, .inl rmsquare)), (armu, .inl (cI, 5, .inl rmunder))] := hD
          refine lv_aload_n hx hb dX3_acceptsParasol_95 rfl (lv_at hl 3 rfl) ?_
          refine va_get (D := D) (ci := 3) (v := .ref arm) (C := RX3) (T := TX3) (N := 3) hx hb hts iX3 hown hK hP 0 rfl rfl 1 (by decide) k_f23 (fun _ h9 => h9) rfl dX3_acceptsParasol_96 ?_
          refine va_get (D := D) (ci := 1) (v := .ref armw) (C := RX1) (T := TX1) (N := 9) hx hb hts iX1 hown hK hP 6 rfl rfl 6 (by decide) k_f107 (fun _ h9 => h9) rfl dX3_acceptsParasol_99 ?_
          refine lv_aload_n hx hb dX3_acceptsParasol_102 rfl (lv_at hl 3 rfl) ?_
          refine va_get (D := D) (ci := 3) (v := .ref arp) (C := RX3) (T := TX3) (N := 3) hx hb hts iX3 hown hK hP 0 rfl rfl 0 (by decide) k_f12 (fun _ h9 => h9) rfl dX3_acceptsParasol_103 ?_
          refine va_get (D := D) (ci := 2) (v := .int rppa) (C := RX2) (T := TX2) (N := 7) hx hb hts iX2 hown hK hP 2 rfl rfl 1 (by decide) k_f47 (fun _ h9 => h9) rfl dX3_acceptsParasol_106 ?_
          refine lv_iload_n hx hb dX3_acceptsParasol_109 rfl (lv_at hl 0 rfl) ?_
          obtain ⟨f_17, hb18, hF⟩ := op_bind hF
          refine xNv (As := [.ref armw, .int rppa, .int r5]) (rest := []) hC hP hD hS [8] (c_X7_put l D cI cC cM armw 6 rmworn rppa r5 f_17 hb18) ⟨va_cnB 3 hts gX3_acceptsParasol_X7_put_n76 rfl rfl rfl (hG.nw 6 rfl) k_in_X7 pd_X7_put ⟨Nat.le_of_ble_eq_true rfl, Nat.le_of_ble_eq_true rfl⟩, k_st_put, trivial⟩ rfl rfl rfl rfl hl.1 rfl (Nat.le_of_ble_eq_true rfl) dX3_acceptsParasol_110 ⟨Nat.zero_le _, Nat.zero_le _⟩ (fun H locs hP hD hS => ?_)
          have hP : va_P D vwCl [(ar, .inr (3, [.ref arp, .ref arm, .ref arn])), (arn, .inl (cI, 3, .inl rnum)), (arp, .inr (2, [.int rpsq, .int rppa, .int rppe, .int rpwo, .ref arpk, .ref arpq, .ref arpr])), (arpk, .inl (cI, 6, .inl f_13)), (arpq, .inl (cI, 6, .inl rpwsq)), (arpr, .inl (cI, 6, .inl rpwhr)), (arm, .inr (1, [.ref arp, .int rmgone, .int rmmet, .int rmstill, .int rmdone, .ref armh, .ref armw, .ref arms, .ref armu])), (armh, .inl (cI, 6, .inl f_15)), (armw, .inl (cI, 6, .inl f_17)), (arms, .inl (cI, 5, .inl rmsquare)), (armu, .inl (cI, 5, .inl rmunder))] H := hP
          have hD : va_D A [(ar, .inr (3, [.ref arp, .ref arm, .ref arn])), (arn, .inl (cI, 3, .inl rnum)), (arp, .inr (2, [.int rpsq, .int rppa, .int rppe, .int rpwo, .ref arpk, .ref arpq, .ref arpr])), (arpk, .inl (cI, 6, .inl f_13)), (arpq, .inl (cI, 6, .inl rpwsq)), (arpr, .inl (cI, 6, .inl rpwhr)), (arm, .inr (1, [.ref arp, .int rmgone, .int rmmet, .int rmstill, .int rmdone, .ref armh, .ref armw, .ref arms, .ref armu])), (armh, .inl (cI, 6, .inl f_15)), (armw, .inl (cI, 6, .inl f_17)), (arms, .inl (cI, 5, .inl rmsquare)), (armu, .inl (cI, 5, .inl rmunder))] := hD
          refine lv_aload_n hx hb dX3_acceptsParasol_113 rfl (lv_at hl 3 rfl) ?_
          refine va_get (D := D) (ci := 3) (v := .ref arp) (C := RX3) (T := TX3) (N := 3) hx hb hts iX3 hown hK hP 0 rfl rfl 0 (by decide) k_f12 (fun _ h9 => h9) rfl dX3_acceptsParasol_114 ?_
          refine lv_dup hx hb dX3_acceptsParasol_117 rfl ?_
          refine va_get (D := D) (ci := 2) (v := .int rppa) (C := RX2) (T := TX2) (N := 7) hx hb hts iX2 hown hK hP 2 rfl rfl 1 (by decide) k_f47 (fun _ h9 => h9) rfl dX3_acceptsParasol_118 ?_
          refine lv_iconst (v := (1 : Int32)) hx hb dX3_acceptsParasol_121 (by decide) ?_
          refine lv_iadd hx hb dX3_acceptsParasol_122 ?_
          refine va_put (D := D) (ci := 2) (v := .int (rppa + (1 : Int32))) (ty := .int) (C := RX2) (T := TX2) (N := 7) hx hb hts iX2 tyX2 tyX2_ok nmX2 hown hK hP hD hS 2 rfl rfl 1 (by decide) k_f47 (fun _ h9 => h9) rfl (by decide +kernel) rfl rfl (Nat.le_of_ble_eq_true rfl) dX3_acceptsParasol_123 (fun H locs hP hD hS => ?_)
          have hP : va_P D vwCl [(ar, .inr (3, [.ref arp, .ref arm, .ref arn])), (arn, .inl (cI, 3, .inl rnum)), (arp, .inr (2, [.int rpsq, .int (rppa + (1 : Int32)), .int rppe, .int rpwo, .ref arpk, .ref arpq, .ref arpr])), (arpk, .inl (cI, 6, .inl f_13)), (arpq, .inl (cI, 6, .inl rpwsq)), (arpr, .inl (cI, 6, .inl rpwhr)), (arm, .inr (1, [.ref arp, .int rmgone, .int rmmet, .int rmstill, .int rmdone, .ref armh, .ref armw, .ref arms, .ref armu])), (armh, .inl (cI, 6, .inl f_15)), (armw, .inl (cI, 6, .inl f_17)), (arms, .inl (cI, 5, .inl rmsquare)), (armu, .inl (cI, 5, .inl rmunder))] H := hP
          have hD : va_D A [(ar, .inr (3, [.ref arp, .ref arm, .ref arn])), (arn, .inl (cI, 3, .inl rnum)), (arp, .inr (2, [.int rpsq, .int (rppa + (1 : Int32)), .int rppe, .int rpwo, .ref arpk, .ref arpq, .ref arpr])), (arpk, .inl (cI, 6, .inl f_13)), (arpq, .inl (cI, 6, .inl rpwsq)), (arpr, .inl (cI, 6, .inl rpwhr)), (arm, .inr (1, [.ref arp, .int rmgone, .int rmmet, .int rmstill, .int rmdone, .ref armh, .ref armw, .ref arms, .ref armu])), (armh, .inl (cI, 6, .inl f_15)), (armw, .inl (cI, 6, .inl f_17)), (arms, .inl (cI, 5, .inl rmsquare)), (armu, .inl (cI, 5, .inl rmunder))] := hD
          refine lv_iconst (v := (1 : Int32)) hx hb dX3_acceptsParasol_126 (by decide) ?_
          cases hF
          rw [hQ]
          exact xrz hC rfl hP hS dX3_acceptsParasol_127
        · have hF := op_neg c12 hF
          refine lv_iconst (v := (0 : Int32)) hx hb dX3_acceptsParasol_57 (by decide) ?_
          cases hF
          rw [hQ]
          exact xrz hC rfl hP hS dX3_acceptsParasol_58

def f_X3_acceptsPerson (rnum : (Nat → Int32)) (rpsq : Int32) (rppe : Int32) (rmsquare : (Nat → Int32)) : Option (Int32 × Int32 × (Nat → Int32)) := (Option.bind (f_X7_at 3 rnum (0 : Int32)) fun r1 => (Option.bind (f_X2_hasSquare rpsq r1) fun r3 => (if r3 = 0 then (some ((0 : Int32), rppe, rmsquare)) else (if rppe < (5 : Int32) then (Option.bind (f_X7_put 5 rmsquare rppe r1) fun f_7 => (some ((1 : Int32), (rppe + (1 : Int32)), f_7))) else (some ((0 : Int32), rppe, rmsquare))))))

def rm_X3_acceptsPerson : Room := { frames := 1, cells := 0, slots := 0, locals := 22 }

theorem pd_X3_acceptsPerson : yX3_acceptsPerson.cls ≠ "java/lang/invoke/MethodHandle" ∧ yX3_acceptsPerson.cls ≠ "java/lang/invoke/VarHandle" ∧ (parseMethodDescriptor yX3_acceptsPerson.desc).map (fun d => d.parameters.length) = some 0 := by decide +kernel

set_option maxHeartbeats 4000000 in
set_option maxRecDepth 100000 in
theorem c_X3_acceptsPerson (l : Launch) (D : va_G) (cI cC cM : ClassId) (ar arn arp arpk arpq arpr arm armh armw arms armu : Nat) (rnum : (Nat → Int32)) (rpsq : Int32) (rppa : Int32) (rppe : Int32) (rpwo : Int32) (rpkind : (Nat → Int32)) (rpwsq : (Nat → Int32)) (rpwhr : (Nat → Int32)) (rmgone : Int32) (rmmet : Int32) (rmstill : Int32) (rmdone : Int32) (rmhour : (Nat → Int32)) (rmworn : (Nat → Int32)) (rmsquare : (Nat → Int32)) (rmunder : (Nat → Int32)) (rr : Int32) (rppe' : Int32) (rmsquare' : (Nat → Int32)) (hF : f_X3_acceptsPerson rnum rpsq rppe rmsquare = some (rr, rppe', rmsquare')) : CI l D cI cC cM yX3_acceptsPerson wsX3_acceptsPerson rm_X3_acceptsPerson [.ref ar] [(ar, .inr (3, [.ref arp, .ref arm, .ref arn])), (arn, .inl (cI, 3, .inl rnum)), (arp, .inr (2, [.int rpsq, .int rppa, .int rppe, .int rpwo, .ref arpk, .ref arpq, .ref arpr])), (arpk, .inl (cI, 6, .inl rpkind)), (arpq, .inl (cI, 6, .inl rpwsq)), (arpr, .inl (cI, 6, .inl rpwhr)), (arm, .inr (1, [.ref arp, .int rmgone, .int rmmet, .int rmstill, .int rmdone, .ref armh, .ref armw, .ref arms, .ref armu])), (armh, .inl (cI, 6, .inl rmhour)), (armw, .inl (cI, 6, .inl rmworn)), (arms, .inl (cI, 5, .inl rmsquare)), (armu, .inl (cI, 5, .inl rmunder))] [(ar, .inr (3, [.ref arp, .ref arm, .ref arn])), (arn, .inl (cI, 3, .inl rnum)), (arp, .inr (2, [.int rpsq, .int rppa, .int rppe', .int rpwo, .ref arpk, .ref arpq, .ref arpr])), (arpk, .inl (cI, 6, .inl rpkind)), (arpq, .inl (cI, 6, .inl rpwsq)), (arpr, .inl (cI, 6, .inl rpwhr)), (arm, .inr (1, [.ref arp, .int rmgone, .int rmmet, .int rmstill, .int rmdone, .ref armh, .ref armw, .ref arms, .ref armu])), (armh, .inl (cI, 6, .inl rmhour)), (armw, .inl (cI, 6, .inl rmworn)), (arms, .inl (cI, 5, .inl rmsquare')), (armu, .inl (cI, 5, .inl rmunder))] rr := by
  refine CI.of (cc := cX3_acceptsPerson) (nL := 2) (ret := (some .boolean)) (by decide) rfl (Nat.le_of_ble_eq_true rfl) ?_
  intro p e s m args below meth c A hC hP hD hS ls hl
  obtain ⟨hx, hb, hml, hown, hts, hr, hlk, hG, hA⟩ := id hC
  have hown : s.vm.findClass RX3 = some m.cls := hown
  have hK := hG.1
  have hl : lv_has ls 2 [(0, .ref ar)] := hl
  have k_f27 := hts (.fieldLink RX3 27 "ParasolHours$Reader" "numbers" "[I") (List.mem_of_getElem? (i := 1) rfl)
  have k_st_at := hts (.static yX7_at) (List.mem_of_getElem? (i := 6) rfl)
  have k_in_X7 := hts (.initialized RX7) (List.mem_of_getElem? (i := 7) rfl)
  have k_f12 := hts (.fieldLink RX3 12 "ParasolHours$Reader" "plan" "LParasolHours$Plan;") (List.mem_of_getElem? (i := 2) rfl)
  have k_f50 := hts (.fieldLink RX3 50 "ParasolHours$Plan" "persons" "I") (List.mem_of_getElem? (i := 3) rfl)
  have k_f23 := hts (.fieldLink RX3 23 "ParasolHours$Reader" "start" "LParasolHours$Moment;") (List.mem_of_getElem? (i := 4) rfl)
  have k_f113 := hts (.fieldLink RX3 113 "ParasolHours$Moment" "square" "[I") (List.mem_of_getElem? (i := 5) rfl)
  have k_st_put := hts (.static yX7_put) (List.mem_of_getElem? (i := 15) rfl)
  have iX1 : ∀ w ∈ wsX10, w ∈ wsX3_acceptsPerson := by decide +kernel
  have iX2 : ∀ w ∈ wsX20, w ∈ wsX3_acceptsPerson := by decide +kernel
  have iX3 : ∀ w ∈ wsX30, w ∈ wsX3_acceptsPerson := by decide +kernel
  obtain ⟨Q, hQ⟩ : ∃ Q, Q = MQ below (QI D [(ar, .inr (3, [.ref arp, .ref arm, .ref arn])), (arn, .inl (cI, 3, .inl rnum)), (arp, .inr (2, [.int rpsq, .int rppa, .int rppe', .int rpwo, .ref arpk, .ref arpq, .ref arpr])), (arpk, .inl (cI, 6, .inl rpkind)), (arpq, .inl (cI, 6, .inl rpwsq)), (arpr, .inl (cI, 6, .inl rpwhr)), (arm, .inr (1, [.ref arp, .int rmgone, .int rmmet, .int rmstill, .int rmdone, .ref armh, .ref armw, .ref arms, .ref armu])), (armh, .inl (cI, 6, .inl rmhour)), (armw, .inl (cI, 6, .inl rmworn)), (arms, .inl (cI, 5, .inl rmsquare')), (armu, .inl (cI, 5, .inl rmunder))] rr A) args s 0 0 A := ⟨_, rfl⟩
  rw [← hQ]
  unfold f_X3_acceptsPerson at hF
  refine lv_aload_n hx hb dX3_acceptsPerson_0 rfl (lv_at hl 0 rfl) ?_
  refine va_get (D := D) (ci := 3) (v := .ref arn) (C := RX3) (T := TX3) (N := 3) hx hb hts iX3 hown hK hP 0 rfl rfl 2 (by decide) k_f27 (fun _ h9 => h9) rfl dX3_acceptsPerson_1 ?_
  refine lv_iconst (v := (0 : Int32)) hx hb dX3_acceptsPerson_4 (by decide) ?_
  obtain ⟨r1, hb2, hF⟩ := op_bind hF
  refine xNr (As := [.ref arn, .int (0 : Int32)]) (rest := []) hC hP hD hS [1] (c_X7_at l D cI cC cM arn 3 rnum (0 : Int32) r1 hb2) ⟨va_cnB 2 hts gX3_acceptsPerson_X7_at_n93 rfl rfl rfl (hG.nw 7 rfl) k_in_X7 pd_X7_at ⟨Nat.le_of_ble_eq_true rfl, Nat.le_of_ble_eq_true rfl⟩, k_st_at, trivial⟩ rfl rfl rfl hl.1 rfl (Nat.le_of_ble_eq_true rfl) dX3_acceptsPerson_5 ⟨Nat.zero_le _, Nat.zero_le _⟩ (fun H locs hP hS => ?_)
  refine lv_istore_n (lv' := [(1, .int r1), (0, .ref ar)]) hx hb dX3_acceptsPerson_8 rfl hl (by decide) rfl (fun ls hl => ?_)
  refine lv_aload_n hx hb dX3_acceptsPerson_9 rfl (lv_at hl 1 rfl) ?_
  refine va_get (D := D) (ci := 3) (v := .ref arp) (C := RX3) (T := TX3) (N := 3) hx hb hts iX3 hown hK hP 0 rfl rfl 0 (by decide) k_f12 (fun _ h9 => h9) rfl dX3_acceptsPerson_10 ?_
  refine lv_iload_n hx hb dX3_acceptsPerson_13 rfl (lv_at hl 0 rfl) ?_
  obtain ⟨r3, hb4, hF⟩ := op_bind hF
  refine xVr (As := [.int r1]) (rest := []) hC hP hD hS [2, 3, 4, 5] (c_X2_hasSquare l D cI cC cM arp arpk arpq arpr rpsq rppa rppe rpwo rpkind rpwsq rpwhr r1 r3 hb4) (cwV 1 hts gX3_acceptsPerson_X2_hasSquare rfl rfl rfl ⟨rfl, pd_X2_hasSquare⟩ ⟨Nat.le_of_ble_eq_true rfl, Nat.le_of_ble_eq_true rfl⟩) rfl rfl 2 2 rfl rfl rfl rfl hl.1 rfl (Nat.le_of_ble_eq_true rfl) dX3_acceptsPerson_14 ⟨Nat.zero_le _, Nat.zero_le _⟩ (fun H locs hP hS => ?_)
  refine lv_if_eq (tgt := 31) hx hb dX3_acceptsPerson_17 (by decide) (fun c5 => ?_) (fun c5 => ?_)
  · have hF := op_pos c5 hF
    refine lv_iconst (v := (0 : Int32)) hx hb dX3_acceptsPerson_31 (by decide) ?_
    cases hF
    rw [hQ]
    exact xrz hC rfl hP hS dX3_acceptsPerson_32
  · have hF := op_neg c5 hF
    refine lv_aload_n hx hb dX3_acceptsPerson_20 rfl (lv_at hl 1 rfl) ?_
    refine va_get (D := D) (ci := 3) (v := .ref arp) (C := RX3) (T := TX3) (N := 3) hx hb hts iX3 hown hK hP 0 rfl rfl 0 (by decide) k_f12 (fun _ h9 => h9) rfl dX3_acceptsPerson_21 ?_
    refine va_get (D := D) (ci := 2) (v := .int rppe) (C := RX2) (T := TX2) (N := 7) hx hb hts iX2 hown hK hP 2 rfl rfl 2 (by decide) k_f50 (fun _ h9 => h9) rfl dX3_acceptsPerson_24 ?_
    refine lv_iconst (v := (5 : Int32)) hx hb dX3_acceptsPerson_27 (by decide) ?_
    refine lv_icmp_lt (tgt := 33) hx hb dX3_acceptsPerson_28 (by decide) (fun c6 => ?_) (fun c6 => ?_)
    · have hF := op_pos c6 hF
      refine lv_aload_n hx hb dX3_acceptsPerson_33 rfl (lv_at hl 1 rfl) ?_
      refine va_get (D := D) (ci := 3) (v := .ref arm) (C := RX3) (T := TX3) (N := 3) hx hb hts iX3 hown hK hP 0 rfl rfl 1 (by decide) k_f23 (fun _ h9 => h9) rfl dX3_acceptsPerson_34 ?_
      refine va_get (D := D) (ci := 1) (v := .ref arms) (C := RX1) (T := TX1) (N := 9) hx hb hts iX1 hown hK hP 6 rfl rfl 7 (by decide) k_f113 (fun _ h9 => h9) rfl dX3_acceptsPerson_37 ?_
      refine lv_aload_n hx hb dX3_acceptsPerson_40 rfl (lv_at hl 1 rfl) ?_
      refine va_get (D := D) (ci := 3) (v := .ref arp) (C := RX3) (T := TX3) (N := 3) hx hb hts iX3 hown hK hP 0 rfl rfl 0 (by decide) k_f12 (fun _ h9 => h9) rfl dX3_acceptsPerson_41 ?_
      refine va_get (D := D) (ci := 2) (v := .int rppe) (C := RX2) (T := TX2) (N := 7) hx hb hts iX2 hown hK hP 2 rfl rfl 2 (by decide) k_f50 (fun _ h9 => h9) rfl dX3_acceptsPerson_44 ?_
      refine lv_iload_n hx hb dX3_acceptsPerson_47 rfl (lv_at hl 0 rfl) ?_
      obtain ⟨f_7, hb8, hF⟩ := op_bind hF
      refine xNv (As := [.ref arms, .int rppe, .int r1]) (rest := []) hC hP hD hS [9] (c_X7_put l D cI cC cM arms 5 rmsquare rppe r1 f_7 hb8) ⟨va_cnB 3 hts gX3_acceptsPerson_X7_put_n76 rfl rfl rfl (hG.nw 6 rfl) k_in_X7 pd_X7_put ⟨Nat.le_of_ble_eq_true rfl, Nat.le_of_ble_eq_true rfl⟩, k_st_put, trivial⟩ rfl rfl rfl rfl hl.1 rfl (Nat.le_of_ble_eq_true rfl) dX3_acceptsPerson_48 ⟨Nat.zero_le _, Nat.zero_le _⟩ (fun H locs hP hD hS => ?_)
      have hP : va_P D vwCl [(ar, .inr (3, [.ref arp, .ref arm, .ref arn])), (arn, .inl (cI, 3, .inl rnum)), (arp, .inr (2, [.int rpsq, .int rppa, .int rppe, .int rpwo, .ref arpk, .ref arpq, .ref arpr])), (arpk, .inl (cI, 6, .inl rpkind)), (arpq, .inl (cI, 6, .inl rpwsq)), (arpr, .inl (cI, 6, .inl rpwhr)), (arm, .inr (1, [.ref arp, .int rmgone, .int rmmet, .int rmstill, .int rmdone, .ref armh, .ref armw, .ref arms, .ref armu])), (armh, .inl (cI, 6, .inl rmhour)), (armw, .inl (cI, 6, .inl rmworn)), (arms, .inl (cI, 5, .inl f_7)), (armu, .inl (cI, 5, .inl rmunder))] H := hP
      have hD : va_D A [(ar, .inr (3, [.ref arp, .ref arm, .ref arn])), (arn, .inl (cI, 3, .inl rnum)), (arp, .inr (2, [.int rpsq, .int rppa, .int rppe, .int rpwo, .ref arpk, .ref arpq, .ref arpr])), (arpk, .inl (cI, 6, .inl rpkind)), (arpq, .inl (cI, 6, .inl rpwsq)), (arpr, .inl (cI, 6, .inl rpwhr)), (arm, .inr (1, [.ref arp, .int rmgone, .int rmmet, .int rmstill, .int rmdone, .ref armh, .ref armw, .ref arms, .ref armu])), (armh, .inl (cI, 6, .inl rmhour)), (armw, .inl (cI, 6, .inl rmworn)), (arms, .inl (cI, 5, .inl f_7)), (armu, .inl (cI, 5, .inl rmunder))] := hD
      refine lv_aload_n hx hb dX3_acceptsPerson_51 rfl (lv_at hl 1 rfl) ?_
      refine va_get (D := D) (ci := 3) (v := .ref arp) (C := RX3) (T := TX3) (N := 3) hx hb hts iX3 hown hK hP 0 rfl rfl 0 (by decide) k_f12 (fun _ h9 => h9) rfl dX3_acceptsPerson_52 ?_
      refine lv_dup hx hb dX3_acceptsPerson_55 rfl ?_
      refine va_get (D := D) (ci := 2) (v := .int rppe) (C := RX2) (T := TX2) (N := 7) hx hb hts iX2 hown hK hP 2 rfl rfl 2 (by decide) k_f50 (fun _ h9 => h9) rfl dX3_acceptsPerson_56 ?_
      refine lv_iconst (v := (1 : Int32)) hx hb dX3_acceptsPerson_59 (by decide) ?_
      refine lv_iadd hx hb dX3_acceptsPerson_60 ?_
      refine va_put (D := D) (ci := 2) (v := .int (rppe + (1 : Int32))) (ty := .int) (C := RX2) (T := TX2) (N := 7) hx hb hts iX2 tyX2 tyX2_ok nmX2 hown hK hP hD hS 2 rfl rfl 2 (by decide) k_f50 (fun _ h9 => h9) rfl (by decide +kernel) rfl rfl (Nat.le_of_ble_eq_true rfl) dX3_acceptsPerson_61 (fun H locs hP hD hS => ?_)
      have hP : va_P D vwCl [(ar, .inr (3, [.ref arp, .ref arm, .ref arn])), (arn, .inl (cI, 3, .inl rnum)), (arp, .inr (2, [.int rpsq, .int rppa, .int (rppe + (1 : Int32)), .int rpwo, .ref arpk, .ref arpq, .ref arpr])), (arpk, .inl (cI, 6, .inl rpkind)), (arpq, .inl (cI, 6, .inl rpwsq)), (arpr, .inl (cI, 6, .inl rpwhr)), (arm, .inr (1, [.ref arp, .int rmgone, .int rmmet, .int rmstill, .int rmdone, .ref armh, .ref armw, .ref arms, .ref armu])), (armh, .inl (cI, 6, .inl rmhour)), (armw, .inl (cI, 6, .inl rmworn)), (arms, .inl (cI, 5, .inl f_7)), (armu, .inl (cI, 5, .inl rmunder))] H := hP
      have hD : va_D A [(ar, .inr (3, [.ref arp, .ref arm, .ref arn])), (arn, .inl (cI, 3, .inl rnum)), (arp, .inr (2, [.int rpsq, .int rppa, .int (rppe + (1 : Int32)), .int rpwo, .ref arpk, .ref arpq, .ref arpr])), (arpk, .inl (cI, 6, .inl rpkind)), (arpq, .inl (cI, 6, .inl rpwsq)), (arpr, .inl (cI, 6, .inl rpwhr)), (arm, .inr (1, [.ref arp, .int rmgone, .int rmmet, .int rmstill, .int rmdone, .ref armh, .ref armw, .ref arms, .ref armu])), (armh, .inl (cI, 6, .inl rmhour)), (armw, .inl (cI, 6, .inl rmworn)), (arms, .inl (cI, 5, .inl f_7)), (armu, .inl (cI, 5, .inl rmunder))] := hD
      refine lv_iconst (v := (1 : Int32)) hx hb dX3_acceptsPerson_64 (by decide) ?_
      cases hF
      rw [hQ]
      exact xrz hC rfl hP hS dX3_acceptsPerson_65
    · have hF := op_neg c6 hF
      refine lv_iconst (v := (0 : Int32)) hx hb dX3_acceptsPerson_31 (by decide) ?_
      cases hF
      rw [hQ]
      exact xrz hC rfl hP hS dX3_acceptsPerson_32

def f_X3_acceptsWork (rnum : (Nat → Int32)) (rpsq : Int32) (rpwo : Int32) (rpwsq : (Nat → Int32)) (rpwhr : (Nat → Int32)) : Option (Int32 × Int32 × (Nat → Int32) × (Nat → Int32)) := (Option.bind (f_X7_at 3 rnum (0 : Int32)) fun r1 => (Option.bind (f_X7_at 3 rnum (1 : Int32)) fun r3 => (Option.bind (f_X2_hasSquare rpsq r1) fun r5 => (if r5 = 0 then (some ((0 : Int32), rpwo, rpwsq, rpwhr)) else (Option.bind (f_X7_isHour r3) fun r8 => (if r8 = 0 then (some ((0 : Int32), rpwo, rpwsq, rpwhr)) else (if rpwo < (6 : Int32) then (Option.bind (f_X7_put 6 rpwsq rpwo r1) fun f_12 => (Option.bind (f_X7_put 6 rpwhr rpwo r3) fun f_14 => (some ((1 : Int32), (rpwo + (1 : Int32)), f_12, f_14)))) else (some ((0 : Int32), rpwo, rpwsq, rpwhr)))))))))

def rm_X3_acceptsWork : Room := { frames := 1, cells := 0, slots := 0, locals := 22 }

theorem pd_X3_acceptsWork : yX3_acceptsWork.cls ≠ "java/lang/invoke/MethodHandle" ∧ yX3_acceptsWork.cls ≠ "java/lang/invoke/VarHandle" ∧ (parseMethodDescriptor yX3_acceptsWork.desc).map (fun d => d.parameters.length) = some 0 := by decide +kernel

set_option maxHeartbeats 4000000 in
set_option maxRecDepth 100000 in
theorem c_X3_acceptsWork (l : Launch) (D : va_G) (cI cC cM : ClassId) (ar arn arp arpk arpq arpr arm armh armw arms armu : Nat) (rnum : (Nat → Int32)) (rpsq : Int32) (rppa : Int32) (rppe : Int32) (rpwo : Int32) (rpkind : (Nat → Int32)) (rpwsq : (Nat → Int32)) (rpwhr : (Nat → Int32)) (rmgone : Int32) (rmmet : Int32) (rmstill : Int32) (rmdone : Int32) (rmhour : (Nat → Int32)) (rmworn : (Nat → Int32)) (rmsquare : (Nat → Int32)) (rmunder : (Nat → Int32)) (rr : Int32) (rpwo' : Int32) (rpwsq' : (Nat → Int32)) (rpwhr' : (Nat → Int32)) (hF : f_X3_acceptsWork rnum rpsq rpwo rpwsq rpwhr = some (rr, rpwo', rpwsq', rpwhr')) : CI l D cI cC cM yX3_acceptsWork wsX3_acceptsWork rm_X3_acceptsWork [.ref ar] [(ar, .inr (3, [.ref arp, .ref arm, .ref arn])), (arn, .inl (cI, 3, .inl rnum)), (arp, .inr (2, [.int rpsq, .int rppa, .int rppe, .int rpwo, .ref arpk, .ref arpq, .ref arpr])), (arpk, .inl (cI, 6, .inl rpkind)), (arpq, .inl (cI, 6, .inl rpwsq)), (arpr, .inl (cI, 6, .inl rpwhr)), (arm, .inr (1, [.ref arp, .int rmgone, .int rmmet, .int rmstill, .int rmdone, .ref armh, .ref armw, .ref arms, .ref armu])), (armh, .inl (cI, 6, .inl rmhour)), (armw, .inl (cI, 6, .inl rmworn)), (arms, .inl (cI, 5, .inl rmsquare)), (armu, .inl (cI, 5, .inl rmunder))] [(ar, .inr (3, [.ref arp, .ref arm, .ref arn])), (arn, .inl (cI, 3, .inl rnum)), (arp, .inr (2, [.int rpsq, .int rppa, .int rppe, .int rpwo', .ref arpk, .ref arpq, .ref arpr])), (arpk, .inl (cI, 6, .inl rpkind)), (arpq, .inl (cI, 6, .inl rpwsq')), (arpr, .inl (cI, 6, .inl rpwhr')), (arm, .inr (1, [.ref arp, .int rmgone, .int rmmet, .int rmstill, .int rmdone, .ref armh, .ref armw, .ref arms, .ref armu])), (armh, .inl (cI, 6, .inl rmhour)), (armw, .inl (cI, 6, .inl rmworn)), (arms, .inl (cI, 5, .inl rmsquare)), (armu, .inl (cI, 5, .inl rmunder))] rr := by
  refine CI.of (cc := cX3_acceptsWork) (nL := 3) (ret := (some .boolean)) (by decide) rfl (Nat.le_of_ble_eq_true rfl) ?_
  intro p e s m args below meth c A hC hP hD hS ls hl
  obtain ⟨hx, hb, hml, hown, hts, hr, hlk, hG, hA⟩ := id hC
  have hown : s.vm.findClass RX3 = some m.cls := hown
  have hK := hG.1
  have hl : lv_has ls 3 [(0, .ref ar)] := hl
  have k_f27 := hts (.fieldLink RX3 27 "ParasolHours$Reader" "numbers" "[I") (List.mem_of_getElem? (i := 1) rfl)
  have k_st_at := hts (.static yX7_at) (List.mem_of_getElem? (i := 6) rfl)
  have k_in_X7 := hts (.initialized RX7) (List.mem_of_getElem? (i := 7) rfl)
  have k_f12 := hts (.fieldLink RX3 12 "ParasolHours$Reader" "plan" "LParasolHours$Plan;") (List.mem_of_getElem? (i := 2) rfl)
  have k_st_isHour := hts (.static yX7_isHour) (List.mem_of_getElem? (i := 15) rfl)
  have k_f53 := hts (.fieldLink RX3 53 "ParasolHours$Plan" "works" "I") (List.mem_of_getElem? (i := 3) rfl)
  have k_f116 := hts (.fieldLink RX3 116 "ParasolHours$Plan" "workSquare" "[I") (List.mem_of_getElem? (i := 4) rfl)
  have k_st_put := hts (.static yX7_put) (List.mem_of_getElem? (i := 17) rfl)
  have k_f119 := hts (.fieldLink RX3 119 "ParasolHours$Plan" "workHour" "[I") (List.mem_of_getElem? (i := 5) rfl)
  have iX2 : ∀ w ∈ wsX20, w ∈ wsX3_acceptsWork := by decide +kernel
  have iX3 : ∀ w ∈ wsX30, w ∈ wsX3_acceptsWork := by decide +kernel
  obtain ⟨Q, hQ⟩ : ∃ Q, Q = MQ below (QI D [(ar, .inr (3, [.ref arp, .ref arm, .ref arn])), (arn, .inl (cI, 3, .inl rnum)), (arp, .inr (2, [.int rpsq, .int rppa, .int rppe, .int rpwo', .ref arpk, .ref arpq, .ref arpr])), (arpk, .inl (cI, 6, .inl rpkind)), (arpq, .inl (cI, 6, .inl rpwsq')), (arpr, .inl (cI, 6, .inl rpwhr')), (arm, .inr (1, [.ref arp, .int rmgone, .int rmmet, .int rmstill, .int rmdone, .ref armh, .ref armw, .ref arms, .ref armu])), (armh, .inl (cI, 6, .inl rmhour)), (armw, .inl (cI, 6, .inl rmworn)), (arms, .inl (cI, 5, .inl rmsquare)), (armu, .inl (cI, 5, .inl rmunder))] rr A) args s 0 0 A := ⟨_, rfl⟩
  rw [← hQ]
  unfold f_X3_acceptsWork at hF
  refine lv_aload_n hx hb dX3_acceptsWork_0 rfl (lv_at hl 0 rfl) ?_
  refine va_get (D := D) (ci := 3) (v := .ref arn) (C := RX3) (T := TX3) (N := 3) hx hb hts iX3 hown hK hP 0 rfl rfl 2 (by decide) k_f27 (fun _ h9 => h9) rfl dX3_acceptsWork_1 ?_
  refine lv_iconst (v := (0 : Int32)) hx hb dX3_acceptsWork_4 (by decide) ?_
  obtain ⟨r1, hb2, hF⟩ := op_bind hF
  refine xNr (As := [.ref arn, .int (0 : Int32)]) (rest := []) hC hP hD hS [1] (c_X7_at l D cI cC cM arn 3 rnum (0 : Int32) r1 hb2) ⟨va_cnB 2 hts gX3_acceptsWork_X7_at_n93 rfl rfl rfl (hG.nw 7 rfl) k_in_X7 pd_X7_at ⟨Nat.le_of_ble_eq_true rfl, Nat.le_of_ble_eq_true rfl⟩, k_st_at, trivial⟩ rfl rfl rfl hl.1 rfl (Nat.le_of_ble_eq_true rfl) dX3_acceptsWork_5 ⟨Nat.zero_le _, Nat.zero_le _⟩ (fun H locs hP hS => ?_)
  refine lv_istore_n (lv' := [(1, .int r1), (0, .ref ar)]) hx hb dX3_acceptsWork_8 rfl hl (by decide) rfl (fun ls hl => ?_)
  refine lv_aload_n hx hb dX3_acceptsWork_9 rfl (lv_at hl 1 rfl) ?_
  refine va_get (D := D) (ci := 3) (v := .ref arn) (C := RX3) (T := TX3) (N := 3) hx hb hts iX3 hown hK hP 0 rfl rfl 2 (by decide) k_f27 (fun _ h9 => h9) rfl dX3_acceptsWork_10 ?_
  refine lv_iconst (v := (1 : Int32)) hx hb dX3_acceptsWork_13 (by decide) ?_
  obtain ⟨r3, hb4, hF⟩ := op_bind hF
  refine xNr (As := [.ref arn, .int (1 : Int32)]) (rest := []) hC hP hD hS [1] (c_X7_at l D cI cC cM arn 3 rnum (1 : Int32) r3 hb4) ⟨va_cnB 2 hts gX3_acceptsWork_X7_at_n93 rfl rfl rfl (hG.nw 7 rfl) k_in_X7 pd_X7_at ⟨Nat.le_of_ble_eq_true rfl, Nat.le_of_ble_eq_true rfl⟩, k_st_at, trivial⟩ rfl rfl rfl hl.1 rfl (Nat.le_of_ble_eq_true rfl) dX3_acceptsWork_14 ⟨Nat.zero_le _, Nat.zero_le _⟩ (fun H locs hP hS => ?_)
  refine lv_istore_n (lv' := [(2, .int r3), (1, .int r1), (0, .ref ar)]) hx hb dX3_acceptsWork_17 rfl hl (by decide) rfl (fun ls hl => ?_)
  refine lv_aload_n hx hb dX3_acceptsWork_18 rfl (lv_at hl 2 rfl) ?_
  refine va_get (D := D) (ci := 3) (v := .ref arp) (C := RX3) (T := TX3) (N := 3) hx hb hts iX3 hown hK hP 0 rfl rfl 0 (by decide) k_f12 (fun _ h9 => h9) rfl dX3_acceptsWork_19 ?_
  refine lv_iload_n hx hb dX3_acceptsWork_22 rfl (lv_at hl 1 rfl) ?_
  obtain ⟨r5, hb6, hF⟩ := op_bind hF
  refine xVr (As := [.int r1]) (rest := []) hC hP hD hS [2, 3, 4, 5] (c_X2_hasSquare l D cI cC cM arp arpk arpq arpr rpsq rppa rppe rpwo rpkind rpwsq rpwhr r1 r5 hb6) (cwV 1 hts gX3_acceptsWork_X2_hasSquare rfl rfl rfl ⟨rfl, pd_X2_hasSquare⟩ ⟨Nat.le_of_ble_eq_true rfl, Nat.le_of_ble_eq_true rfl⟩) rfl rfl 2 2 rfl rfl rfl rfl hl.1 rfl (Nat.le_of_ble_eq_true rfl) dX3_acceptsWork_23 ⟨Nat.zero_le _, Nat.zero_le _⟩ (fun H locs hP hS => ?_)
  refine lv_if_eq (tgt := 48) hx hb dX3_acceptsWork_26 (by decide) (fun c7 => ?_) (fun c7 => ?_)
  · have hF := op_pos c7 hF
    refine lv_iconst (v := (0 : Int32)) hx hb dX3_acceptsWork_48 (by decide) ?_
    cases hF
    rw [hQ]
    exact xrz hC rfl hP hS dX3_acceptsWork_49
  · have hF := op_neg c7 hF
    refine lv_iload_n hx hb dX3_acceptsWork_29 rfl (lv_at hl 0 rfl) ?_
    obtain ⟨r8, hb9, hF⟩ := op_bind hF
    refine xNr (As := [.int r3]) (rest := []) hC hP hD hS [] (c_X7_isHour l D cI cC cM r3 r8 hb9) ⟨va_cnB 1 hts gX3_acceptsWork_X7_isHour_n97 rfl rfl rfl (hG.nw 8 rfl) k_in_X7 pd_X7_isHour ⟨Nat.le_of_ble_eq_true rfl, Nat.le_of_ble_eq_true rfl⟩, k_st_isHour, trivial⟩ rfl rfl rfl hl.1 rfl (Nat.le_of_ble_eq_true rfl) dX3_acceptsWork_30 ⟨Nat.zero_le _, Nat.zero_le _⟩ (fun H locs hP hS => ?_)
    refine lv_if_eq (tgt := 48) hx hb dX3_acceptsWork_33 (by decide) (fun c10 => ?_) (fun c10 => ?_)
    · have hF := op_pos c10 hF
      refine lv_iconst (v := (0 : Int32)) hx hb dX3_acceptsWork_48 (by decide) ?_
      cases hF
      rw [hQ]
      exact xrz hC rfl hP hS dX3_acceptsWork_49
    · have hF := op_neg c10 hF
      refine lv_aload_n hx hb dX3_acceptsWork_36 rfl (lv_at hl 2 rfl) ?_
      refine va_get (D := D) (ci := 3) (v := .ref arp) (C := RX3) (T := TX3) (N := 3) hx hb hts iX3 hown hK hP 0 rfl rfl 0 (by decide) k_f12 (fun _ h9 => h9) rfl dX3_acceptsWork_37 ?_
      refine va_get (D := D) (ci := 2) (v := .int rpwo) (C := RX2) (T := TX2) (N := 7) hx hb hts iX2 hown hK hP 2 rfl rfl 3 (by decide) k_f53 (fun _ h9 => h9) rfl dX3_acceptsWork_40 ?_
      refine lv_bipush (v := (6 : Int32)) hx hb dX3_acceptsWork_43 (by decide) ?_
      refine lv_icmp_lt (tgt := 50) hx hb dX3_acceptsWork_45 (by decide) (fun c11 => ?_) (fun c11 => ?_)
      · have hF := op_pos c11 hF
        refine lv_aload_n hx hb dX3_acceptsWork_50 rfl (lv_at hl 2 rfl) ?_
        refine va_get (D := D) (ci := 3) (v := .ref arp) (C := RX3) (T := TX3) (N := 3) hx hb hts iX3 hown hK hP 0 rfl rfl 0 (by decide) k_f12 (fun _ h9 => h9) rfl dX3_acceptsWork_51 ?_
        refine va_get (D := D) (ci := 2) (v := .ref arpq) (C := RX2) (T := TX2) (N := 7) hx hb hts iX2 hown hK hP 2 rfl rfl 5 (by decide) k_f116 (fun _ h9 => h9) rfl dX3_acceptsWork_54 ?_
        refine lv_aload_n hx hb dX3_acceptsWork_57 rfl (lv_at hl 2 rfl) ?_
        refine va_get (D := D) (ci := 3) (v := .ref arp) (C := RX3) (T := TX3) (N := 3) hx hb hts iX3 hown hK hP 0 rfl rfl 0 (by decide) k_f12 (fun _ h9 => h9) rfl dX3_acceptsWork_58 ?_
        refine va_get (D := D) (ci := 2) (v := .int rpwo) (C := RX2) (T := TX2) (N := 7) hx hb hts iX2 hown hK hP 2 rfl rfl 3 (by decide) k_f53 (fun _ h9 => h9) rfl dX3_acceptsWork_61 ?_
        refine lv_iload_n hx hb dX3_acceptsWork_64 rfl (lv_at hl 1 rfl) ?_
        obtain ⟨f_12, hb13, hF⟩ := op_bind hF
        refine xNv (As := [.ref arpq, .int rpwo, .int r1]) (rest := []) hC hP hD hS [4] (c_X7_put l D cI cC cM arpq 6 rpwsq rpwo r1 f_12 hb13) ⟨va_cnB 3 hts gX3_acceptsWork_X7_put_n76 rfl rfl rfl (hG.nw 6 rfl) k_in_X7 pd_X7_put ⟨Nat.le_of_ble_eq_true rfl, Nat.le_of_ble_eq_true rfl⟩, k_st_put, trivial⟩ rfl rfl rfl rfl hl.1 rfl (Nat.le_of_ble_eq_true rfl) dX3_acceptsWork_65 ⟨Nat.zero_le _, Nat.zero_le _⟩ (fun H locs hP hD hS => ?_)
        have hP : va_P D vwCl [(ar, .inr (3, [.ref arp, .ref arm, .ref arn])), (arn, .inl (cI, 3, .inl rnum)), (arp, .inr (2, [.int rpsq, .int rppa, .int rppe, .int rpwo, .ref arpk, .ref arpq, .ref arpr])), (arpk, .inl (cI, 6, .inl rpkind)), (arpq, .inl (cI, 6, .inl f_12)), (arpr, .inl (cI, 6, .inl rpwhr)), (arm, .inr (1, [.ref arp, .int rmgone, .int rmmet, .int rmstill, .int rmdone, .ref armh, .ref armw, .ref arms, .ref armu])), (armh, .inl (cI, 6, .inl rmhour)), (armw, .inl (cI, 6, .inl rmworn)), (arms, .inl (cI, 5, .inl rmsquare)), (armu, .inl (cI, 5, .inl rmunder))] H := hP
        have hD : va_D A [(ar, .inr (3, [.ref arp, .ref arm, .ref arn])), (arn, .inl (cI, 3, .inl rnum)), (arp, .inr (2, [.int rpsq, .int rppa, .int rppe, .int rpwo, .ref arpk, .ref arpq, .ref arpr])), (arpk, .inl (cI, 6, .inl rpkind)), (arpq, .inl (cI, 6, .inl f_12)), (arpr, .inl (cI, 6, .inl rpwhr)), (arm, .inr (1, [.ref arp, .int rmgone, .int rmmet, .int rmstill, .int rmdone, .ref armh, .ref armw, .ref arms, .ref armu])), (armh, .inl (cI, 6, .inl rmhour)), (armw, .inl (cI, 6, .inl rmworn)), (arms, .inl (cI, 5, .inl rmsquare)), (armu, .inl (cI, 5, .inl rmunder))] := hD
        refine lv_aload_n hx hb dX3_acceptsWork_68 rfl (lv_at hl 2 rfl) ?_
        refine va_get (D := D) (ci := 3) (v := .ref arp) (C := RX3) (T := TX3) (N := 3) hx hb hts iX3 hown hK hP 0 rfl rfl 0 (by decide) k_f12 (fun _ h9 => h9) rfl dX3_acceptsWork_69 ?_
        refine va_get (D := D) (ci := 2) (v := .ref arpr) (C := RX2) (T := TX2) (N := 7) hx hb hts iX2 hown hK hP 2 rfl rfl 6 (by decide) k_f119 (fun _ h9 => h9) rfl dX3_acceptsWork_72 ?_
        refine lv_aload_n hx hb dX3_acceptsWork_75 rfl (lv_at hl 2 rfl) ?_
        refine va_get (D := D) (ci := 3) (v := .ref arp) (C := RX3) (T := TX3) (N := 3) hx hb hts iX3 hown hK hP 0 rfl rfl 0 (by decide) k_f12 (fun _ h9 => h9) rfl dX3_acceptsWork_76 ?_
        refine va_get (D := D) (ci := 2) (v := .int rpwo) (C := RX2) (T := TX2) (N := 7) hx hb hts iX2 hown hK hP 2 rfl rfl 3 (by decide) k_f53 (fun _ h9 => h9) rfl dX3_acceptsWork_79 ?_
        refine lv_iload_n hx hb dX3_acceptsWork_82 rfl (lv_at hl 0 rfl) ?_
        obtain ⟨f_14, hb15, hF⟩ := op_bind hF
        refine xNv (As := [.ref arpr, .int rpwo, .int r3]) (rest := []) hC hP hD hS [5] (c_X7_put l D cI cC cM arpr 6 rpwhr rpwo r3 f_14 hb15) ⟨va_cnB 3 hts gX3_acceptsWork_X7_put_n76 rfl rfl rfl (hG.nw 6 rfl) k_in_X7 pd_X7_put ⟨Nat.le_of_ble_eq_true rfl, Nat.le_of_ble_eq_true rfl⟩, k_st_put, trivial⟩ rfl rfl rfl rfl hl.1 rfl (Nat.le_of_ble_eq_true rfl) dX3_acceptsWork_83 ⟨Nat.zero_le _, Nat.zero_le _⟩ (fun H locs hP hD hS => ?_)
        have hP : va_P D vwCl [(ar, .inr (3, [.ref arp, .ref arm, .ref arn])), (arn, .inl (cI, 3, .inl rnum)), (arp, .inr (2, [.int rpsq, .int rppa, .int rppe, .int rpwo, .ref arpk, .ref arpq, .ref arpr])), (arpk, .inl (cI, 6, .inl rpkind)), (arpq, .inl (cI, 6, .inl f_12)), (arpr, .inl (cI, 6, .inl f_14)), (arm, .inr (1, [.ref arp, .int rmgone, .int rmmet, .int rmstill, .int rmdone, .ref armh, .ref armw, .ref arms, .ref armu])), (armh, .inl (cI, 6, .inl rmhour)), (armw, .inl (cI, 6, .inl rmworn)), (arms, .inl (cI, 5, .inl rmsquare)), (armu, .inl (cI, 5, .inl rmunder))] H := hP
        have hD : va_D A [(ar, .inr (3, [.ref arp, .ref arm, .ref arn])), (arn, .inl (cI, 3, .inl rnum)), (arp, .inr (2, [.int rpsq, .int rppa, .int rppe, .int rpwo, .ref arpk, .ref arpq, .ref arpr])), (arpk, .inl (cI, 6, .inl rpkind)), (arpq, .inl (cI, 6, .inl f_12)), (arpr, .inl (cI, 6, .inl f_14)), (arm, .inr (1, [.ref arp, .int rmgone, .int rmmet, .int rmstill, .int rmdone, .ref armh, .ref armw, .ref arms, .ref armu])), (armh, .inl (cI, 6, .inl rmhour)), (armw, .inl (cI, 6, .inl rmworn)), (arms, .inl (cI, 5, .inl rmsquare)), (armu, .inl (cI, 5, .inl rmunder))] := hD
        refine lv_aload_n hx hb dX3_acceptsWork_86 rfl (lv_at hl 2 rfl) ?_
        refine va_get (D := D) (ci := 3) (v := .ref arp) (C := RX3) (T := TX3) (N := 3) hx hb hts iX3 hown hK hP 0 rfl rfl 0 (by decide) k_f12 (fun _ h9 => h9) rfl dX3_acceptsWork_87 ?_
        refine lv_dup hx hb dX3_acceptsWork_90 rfl ?_
        refine va_get (D := D) (ci := 2) (v := .int rpwo) (C := RX2) (T := TX2) (N := 7) hx hb hts iX2 hown hK hP 2 rfl rfl 3 (by decide) k_f53 (fun _ h9 => h9) rfl dX3_acceptsWork_91 ?_
        refine lv_iconst (v := (1 : Int32)) hx hb dX3_acceptsWork_94 (by decide) ?_
        refine lv_iadd hx hb dX3_acceptsWork_95 ?_
        refine va_put (D := D) (ci := 2) (v := .int (rpwo + (1 : Int32))) (ty := .int) (C := RX2) (T := TX2) (N := 7) hx hb hts iX2 tyX2 tyX2_ok nmX2 hown hK hP hD hS 2 rfl rfl 3 (by decide) k_f53 (fun _ h9 => h9) rfl (by decide +kernel) rfl rfl (Nat.le_of_ble_eq_true rfl) dX3_acceptsWork_96 (fun H locs hP hD hS => ?_)
        have hP : va_P D vwCl [(ar, .inr (3, [.ref arp, .ref arm, .ref arn])), (arn, .inl (cI, 3, .inl rnum)), (arp, .inr (2, [.int rpsq, .int rppa, .int rppe, .int (rpwo + (1 : Int32)), .ref arpk, .ref arpq, .ref arpr])), (arpk, .inl (cI, 6, .inl rpkind)), (arpq, .inl (cI, 6, .inl f_12)), (arpr, .inl (cI, 6, .inl f_14)), (arm, .inr (1, [.ref arp, .int rmgone, .int rmmet, .int rmstill, .int rmdone, .ref armh, .ref armw, .ref arms, .ref armu])), (armh, .inl (cI, 6, .inl rmhour)), (armw, .inl (cI, 6, .inl rmworn)), (arms, .inl (cI, 5, .inl rmsquare)), (armu, .inl (cI, 5, .inl rmunder))] H := hP
        have hD : va_D A [(ar, .inr (3, [.ref arp, .ref arm, .ref arn])), (arn, .inl (cI, 3, .inl rnum)), (arp, .inr (2, [.int rpsq, .int rppa, .int rppe, .int (rpwo + (1 : Int32)), .ref arpk, .ref arpq, .ref arpr])), (arpk, .inl (cI, 6, .inl rpkind)), (arpq, .inl (cI, 6, .inl f_12)), (arpr, .inl (cI, 6, .inl f_14)), (arm, .inr (1, [.ref arp, .int rmgone, .int rmmet, .int rmstill, .int rmdone, .ref armh, .ref armw, .ref arms, .ref armu])), (armh, .inl (cI, 6, .inl rmhour)), (armw, .inl (cI, 6, .inl rmworn)), (arms, .inl (cI, 5, .inl rmsquare)), (armu, .inl (cI, 5, .inl rmunder))] := hD
        refine lv_iconst (v := (1 : Int32)) hx hb dX3_acceptsWork_99 (by decide) ?_
        cases hF
        rw [hQ]
        exact xrz hC rfl hP hS dX3_acceptsWork_100
      · have hF := op_neg c11 hF
        refine lv_iconst (v := (0 : Int32)) hx hb dX3_acceptsWork_48 (by decide) ?_
        cases hF
        rw [hQ]
        exact xrz hC rfl hP hS dX3_acceptsWork_49

def f_X3_accepts (rnum : (Nat → Int32)) (rpsq : Int32) (rppa : Int32) (rppe : Int32) (rpwo : Int32) (rpkind : (Nat → Int32)) (rpwsq : (Nat → Int32)) (rpwhr : (Nat → Int32)) (rmhour : (Nat → Int32)) (rmworn : (Nat → Int32)) (rmsquare : (Nat → Int32)) (i : Int32) : Option (Int32 × Int32 × Int32 × Int32 × Int32 × (Nat → Int32) × (Nat → Int32) × (Nat → Int32) × (Nat → Int32) × (Nat → Int32) × (Nat → Int32)) := (if i = (113 : Int32) then (Option.bind (f_X3_acceptsSquares rnum rpsq rppa rppe rpwo) fun (r50, rpsq_51) => (if r50 = 0 then (if i = (117 : Int32) then (Option.bind (f_X3_acceptsParasol rnum rppa rpkind rmhour rmworn) fun (r75, rppa_76, rpkind_77, rmhour_78, rmworn_79) => (if r75 = 0 then (if i = (112 : Int32) then (Option.bind (f_X3_acceptsPerson rnum rpsq_51 rppe rmsquare) fun (r90, rppe_91, rmsquare_92) => (if r90 = 0 then (if i = (119 : Int32) then (Option.bind (f_X3_acceptsWork rnum rpsq_51 rpwo rpwsq rpwhr) fun (r96, rpwo_97, rpwsq_98, rpwhr_99) => (if r96 = 0 then (some ((0 : Int32), rpsq_51, rppa_76, rppe_91, rpwo_97, rpkind_77, rpwsq_98, rpwhr_99, rmhour_78, rmworn_79, rmsquare_92)) else (some ((1 : Int32), rpsq_51, rppa_76, rppe_91, rpwo_97, rpkind_77, rpwsq_98, rpwhr_99, rmhour_78, rmworn_79, rmsquare_92)))) else (some ((0 : Int32), rpsq_51, rppa_76, rppe_91, rpwo, rpkind_77, rpwsq, rpwhr, rmhour_78, rmworn_79, rmsquare_92))) else (some ((1 : Int32), rpsq_51, rppa_76, rppe_91, rpwo, rpkind_77, rpwsq, rpwhr, rmhour_78, rmworn_79, rmsquare_92)))) else (if i = (119 : Int32) then (Option.bind (f_X3_acceptsWork rnum rpsq_51 rpwo rpwsq rpwhr) fun (r84, rpwo_85, rpwsq_86, rpwhr_87) => (if r84 = 0 then (some ((0 : Int32), rpsq_51, rppa_76, rppe, rpwo_85, rpkind_77, rpwsq_86, rpwhr_87, rmhour_78, rmworn_79, rmsquare)) else (some ((1 : Int32), rpsq_51, rppa_76, rppe, rpwo_85, rpkind_77, rpwsq_86, rpwhr_87, rmhour_78, rmworn_79, rmsquare)))) else (some ((0 : Int32), rpsq_51, rppa_76, rppe, rpwo, rpkind_77, rpwsq, rpwhr, rmhour_78, rmworn_79, rmsquare)))) else (some ((1 : Int32), rpsq_51, rppa_76, rppe, rpwo, rpkind_77, rpwsq, rpwhr, rmhour_78, rmworn_79, rmsquare)))) else (if i = (112 : Int32) then (Option.bind (f_X3_acceptsPerson rnum rpsq_51 rppe rmsquare) fun (r63, rppe_64, rmsquare_65) => (if r63 = 0 then (if i = (119 : Int32) then (Option.bind (f_X3_acceptsWork rnum rpsq_51 rpwo rpwsq rpwhr) fun (r69, rpwo_70, rpwsq_71, rpwhr_72) => (if r69 = 0 then (some ((0 : Int32), rpsq_51, rppa, rppe_64, rpwo_70, rpkind, rpwsq_71, rpwhr_72, rmhour, rmworn, rmsquare_65)) else (some ((1 : Int32), rpsq_51, rppa, rppe_64, rpwo_70, rpkind, rpwsq_71, rpwhr_72, rmhour, rmworn, rmsquare_65)))) else (some ((0 : Int32), rpsq_51, rppa, rppe_64, rpwo, rpkind, rpwsq, rpwhr, rmhour, rmworn, rmsquare_65))) else (some ((1 : Int32), rpsq_51, rppa, rppe_64, rpwo, rpkind, rpwsq, rpwhr, rmhour, rmworn, rmsquare_65)))) else (if i = (119 : Int32) then (Option.bind (f_X3_acceptsWork rnum rpsq_51 rpwo rpwsq rpwhr) fun (r57, rpwo_58, rpwsq_59, rpwhr_60) => (if r57 = 0 then (some ((0 : Int32), rpsq_51, rppa, rppe, rpwo_58, rpkind, rpwsq_59, rpwhr_60, rmhour, rmworn, rmsquare)) else (some ((1 : Int32), rpsq_51, rppa, rppe, rpwo_58, rpkind, rpwsq_59, rpwhr_60, rmhour, rmworn, rmsquare)))) else (some ((0 : Int32), rpsq_51, rppa, rppe, rpwo, rpkind, rpwsq, rpwhr, rmhour, rmworn, rmsquare))))) else (some ((1 : Int32), rpsq_51, rppa, rppe, rpwo, rpkind, rpwsq, rpwhr, rmhour, rmworn, rmsquare)))) else (if i = (117 : Int32) then (Option.bind (f_X3_acceptsParasol rnum rppa rpkind rmhour rmworn) fun (r23, rppa_24, rpkind_25, rmhour_26, rmworn_27) => (if r23 = 0 then (if i = (112 : Int32) then (Option.bind (f_X3_acceptsPerson rnum rpsq rppe rmsquare) fun (r38, rppe_39, rmsquare_40) => (if r38 = 0 then (if i = (119 : Int32) then (Option.bind (f_X3_acceptsWork rnum rpsq rpwo rpwsq rpwhr) fun (r44, rpwo_45, rpwsq_46, rpwhr_47) => (if r44 = 0 then (some ((0 : Int32), rpsq, rppa_24, rppe_39, rpwo_45, rpkind_25, rpwsq_46, rpwhr_47, rmhour_26, rmworn_27, rmsquare_40)) else (some ((1 : Int32), rpsq, rppa_24, rppe_39, rpwo_45, rpkind_25, rpwsq_46, rpwhr_47, rmhour_26, rmworn_27, rmsquare_40)))) else (some ((0 : Int32), rpsq, rppa_24, rppe_39, rpwo, rpkind_25, rpwsq, rpwhr, rmhour_26, rmworn_27, rmsquare_40))) else (some ((1 : Int32), rpsq, rppa_24, rppe_39, rpwo, rpkind_25, rpwsq, rpwhr, rmhour_26, rmworn_27, rmsquare_40)))) else (if i = (119 : Int32) then (Option.bind (f_X3_acceptsWork rnum rpsq rpwo rpwsq rpwhr) fun (r32, rpwo_33, rpwsq_34, rpwhr_35) => (if r32 = 0 then (some ((0 : Int32), rpsq, rppa_24, rppe, rpwo_33, rpkind_25, rpwsq_34, rpwhr_35, rmhour_26, rmworn_27, rmsquare)) else (some ((1 : Int32), rpsq, rppa_24, rppe, rpwo_33, rpkind_25, rpwsq_34, rpwhr_35, rmhour_26, rmworn_27, rmsquare)))) else (some ((0 : Int32), rpsq, rppa_24, rppe, rpwo, rpkind_25, rpwsq, rpwhr, rmhour_26, rmworn_27, rmsquare)))) else (some ((1 : Int32), rpsq, rppa_24, rppe, rpwo, rpkind_25, rpwsq, rpwhr, rmhour_26, rmworn_27, rmsquare)))) else (if i = (112 : Int32) then (Option.bind (f_X3_acceptsPerson rnum rpsq rppe rmsquare) fun (r11, rppe_12, rmsquare_13) => (if r11 = 0 then (if i = (119 : Int32) then (Option.bind (f_X3_acceptsWork rnum rpsq rpwo rpwsq rpwhr) fun (r17, rpwo_18, rpwsq_19, rpwhr_20) => (if r17 = 0 then (some ((0 : Int32), rpsq, rppa, rppe_12, rpwo_18, rpkind, rpwsq_19, rpwhr_20, rmhour, rmworn, rmsquare_13)) else (some ((1 : Int32), rpsq, rppa, rppe_12, rpwo_18, rpkind, rpwsq_19, rpwhr_20, rmhour, rmworn, rmsquare_13)))) else (some ((0 : Int32), rpsq, rppa, rppe_12, rpwo, rpkind, rpwsq, rpwhr, rmhour, rmworn, rmsquare_13))) else (some ((1 : Int32), rpsq, rppa, rppe_12, rpwo, rpkind, rpwsq, rpwhr, rmhour, rmworn, rmsquare_13)))) else (if i = (119 : Int32) then (Option.bind (f_X3_acceptsWork rnum rpsq rpwo rpwsq rpwhr) fun (r5, rpwo_6, rpwsq_7, rpwhr_8) => (if r5 = 0 then (some ((0 : Int32), rpsq, rppa, rppe, rpwo_6, rpkind, rpwsq_7, rpwhr_8, rmhour, rmworn, rmsquare)) else (some ((1 : Int32), rpsq, rppa, rppe, rpwo_6, rpkind, rpwsq_7, rpwhr_8, rmhour, rmworn, rmsquare)))) else (some ((0 : Int32), rpsq, rppa, rppe, rpwo, rpkind, rpwsq, rpwhr, rmhour, rmworn, rmsquare))))))

def rm_X3_accepts : Room := { frames := 2, cells := 0, slots := 0, locals := 45 }

theorem pd_X3_accepts : yX3_accepts.cls ≠ "java/lang/invoke/MethodHandle" ∧ yX3_accepts.cls ≠ "java/lang/invoke/VarHandle" ∧ (parseMethodDescriptor yX3_accepts.desc).map (fun d => d.parameters.length) = some 1 := by decide +kernel

set_option maxHeartbeats 4000000 in
set_option maxRecDepth 100000 in
theorem c_X3_accepts (l : Launch) (D : va_G) (cI cC cM : ClassId) (ar arn arp arpk arpq arpr arm armh armw arms armu : Nat) (rnum : (Nat → Int32)) (rpsq : Int32) (rppa : Int32) (rppe : Int32) (rpwo : Int32) (rpkind : (Nat → Int32)) (rpwsq : (Nat → Int32)) (rpwhr : (Nat → Int32)) (rmgone : Int32) (rmmet : Int32) (rmstill : Int32) (rmdone : Int32) (rmhour : (Nat → Int32)) (rmworn : (Nat → Int32)) (rmsquare : (Nat → Int32)) (rmunder : (Nat → Int32)) (i : Int32) (rr : Int32) (rpsq' : Int32) (rppa' : Int32) (rppe' : Int32) (rpwo' : Int32) (rpkind' : (Nat → Int32)) (rpwsq' : (Nat → Int32)) (rpwhr' : (Nat → Int32)) (rmhour' : (Nat → Int32)) (rmworn' : (Nat → Int32)) (rmsquare' : (Nat → Int32)) (hF : f_X3_accepts rnum rpsq rppa rppe rpwo rpkind rpwsq rpwhr rmhour rmworn rmsquare i = some (rr, rpsq', rppa', rppe', rpwo', rpkind', rpwsq', rpwhr', rmhour', rmworn', rmsquare')) : CI l D cI cC cM yX3_accepts wsX3_accepts rm_X3_accepts [.ref ar, .int i] [(ar, .inr (3, [.ref arp, .ref arm, .ref arn])), (arn, .inl (cI, 3, .inl rnum)), (arp, .inr (2, [.int rpsq, .int rppa, .int rppe, .int rpwo, .ref arpk, .ref arpq, .ref arpr])), (arpk, .inl (cI, 6, .inl rpkind)), (arpq, .inl (cI, 6, .inl rpwsq)), (arpr, .inl (cI, 6, .inl rpwhr)), (arm, .inr (1, [.ref arp, .int rmgone, .int rmmet, .int rmstill, .int rmdone, .ref armh, .ref armw, .ref arms, .ref armu])), (armh, .inl (cI, 6, .inl rmhour)), (armw, .inl (cI, 6, .inl rmworn)), (arms, .inl (cI, 5, .inl rmsquare)), (armu, .inl (cI, 5, .inl rmunder))] [(ar, .inr (3, [.ref arp, .ref arm, .ref arn])), (arn, .inl (cI, 3, .inl rnum)), (arp, .inr (2, [.int rpsq', .int rppa', .int rppe', .int rpwo', .ref arpk, .ref arpq, .ref arpr])), (arpk, .inl (cI, 6, .inl rpkind')), (arpq, .inl (cI, 6, .inl rpwsq')), (arpr, .inl (cI, 6, .inl rpwhr')), (arm, .inr (1, [.ref arp, .int rmgone, .int rmmet, .int rmstill, .int rmdone, .ref armh, .ref armw, .ref arms, .ref armu])), (armh, .inl (cI, 6, .inl rmhour')), (armw, .inl (cI, 6, .inl rmworn')), (arms, .inl (cI, 5, .inl rmsquare')), (armu, .inl (cI, 5, .inl rmunder))] rr := by
  refine CI.of (cc := cX3_accepts) (nL := 2) (ret := (some .boolean)) (by decide) rfl (Nat.le_of_ble_eq_true rfl) ?_
  intro p e s m args below meth c A hC hP hD hS ls hl
  obtain ⟨hx, hb, hml, hown, hts, hr, hlk, hG, hA⟩ := id hC
  have hown : s.vm.findClass RX3 = some m.cls := hown
  have hK := hG.1
  have hl : lv_has ls 2 [(0, .ref ar), (1, .int i)] := hl
  obtain ⟨Q, hQ⟩ : ∃ Q, Q = MQ below (QI D [(ar, .inr (3, [.ref arp, .ref arm, .ref arn])), (arn, .inl (cI, 3, .inl rnum)), (arp, .inr (2, [.int rpsq', .int rppa', .int rppe', .int rpwo', .ref arpk, .ref arpq, .ref arpr])), (arpk, .inl (cI, 6, .inl rpkind')), (arpq, .inl (cI, 6, .inl rpwsq')), (arpr, .inl (cI, 6, .inl rpwhr')), (arm, .inr (1, [.ref arp, .int rmgone, .int rmmet, .int rmstill, .int rmdone, .ref armh, .ref armw, .ref arms, .ref armu])), (armh, .inl (cI, 6, .inl rmhour')), (armw, .inl (cI, 6, .inl rmworn')), (arms, .inl (cI, 5, .inl rmsquare')), (armu, .inl (cI, 5, .inl rmunder))] rr A) args s 0 0 A := ⟨_, rfl⟩
  rw [← hQ]
  unfold f_X3_accepts at hF
  refine lv_iload_n hx hb dX3_accepts_0 rfl (lv_at hl 1 rfl) ?_
  refine lv_bipush (v := (113 : Int32)) hx hb dX3_accepts_1 (by decide) ?_
  refine lv_icmp_ne (tgt := 13) hx hb dX3_accepts_3 (by decide) (fun c1 => ?_) (fun c1 => ?_)
  · have hF := op_neg c1 hF
    refine lv_iload_n hx hb dX3_accepts_13 rfl (lv_at hl 1 rfl) ?_
    refine lv_bipush (v := (117 : Int32)) hx hb dX3_accepts_14 (by decide) ?_
    refine lv_icmp_ne (tgt := 26) hx hb dX3_accepts_16 (by decide) (fun c2 => ?_) (fun c2 => ?_)
    · have hF := op_neg c2 hF
      refine lv_iload_n hx hb dX3_accepts_26 rfl (lv_at hl 1 rfl) ?_
      refine lv_bipush (v := (112 : Int32)) hx hb dX3_accepts_27 (by decide) ?_
      refine lv_icmp_ne (tgt := 39) hx hb dX3_accepts_29 (by decide) (fun c3 => ?_) (fun c3 => ?_)
      · have hF := op_neg c3 hF
        refine lv_iload_n hx hb dX3_accepts_39 rfl (lv_at hl 1 rfl) ?_
        refine lv_bipush (v := (119 : Int32)) hx hb dX3_accepts_40 (by decide) ?_
        refine lv_icmp_ne (tgt := 56) hx hb dX3_accepts_42 (by decide) (fun c4 => ?_) (fun c4 => ?_)
        · have hF := op_neg c4 hF
          refine lv_iconst (v := (0 : Int32)) hx hb dX3_accepts_56 (by decide) ?_
          cases hF
          rw [hQ]
          exact xrz hC rfl hP hS dX3_accepts_57
        · have hF := op_pos c4 hF
          refine lv_aload_n hx hb dX3_accepts_45 rfl (lv_at hl 0 rfl) ?_
          obtain ⟨⟨r5, rpwo_6, rpwsq_7, rpwhr_8⟩, hb9, hF⟩ := op_bind hF
          refine xVi (As := []) (rest := []) hC hP hD hS [0, 1, 2, 3, 4, 5, 6, 7, 8, 9, 10] (c_X3_acceptsWork l D cI cC cM ar arn arp arpk arpq arpr arm armh armw arms armu rnum rpsq rppa rppe rpwo rpkind rpwsq rpwhr rmgone rmmet rmstill rmdone rmhour rmworn rmsquare rmunder r5 rpwo_6 rpwsq_7 rpwhr_8 hb9) (cwV 0 hts gX3_accepts_X3_acceptsWork rfl rfl rfl ⟨rfl, pd_X3_acceptsWork⟩ ⟨Nat.le_of_ble_eq_true rfl, Nat.le_of_ble_eq_true rfl⟩) rfl rfl rfl 0 3 rfl rfl rfl rfl hl.1 rfl (Nat.le_of_ble_eq_true rfl) dX3_accepts_46 ⟨Nat.zero_le _, Nat.zero_le _⟩ (fun H locs hP hD hS => ?_)
          have hP : va_P D vwCl [(ar, .inr (3, [.ref arp, .ref arm, .ref arn])), (arn, .inl (cI, 3, .inl rnum)), (arp, .inr (2, [.int rpsq, .int rppa, .int rppe, .int rpwo_6, .ref arpk, .ref arpq, .ref arpr])), (arpk, .inl (cI, 6, .inl rpkind)), (arpq, .inl (cI, 6, .inl rpwsq_7)), (arpr, .inl (cI, 6, .inl rpwhr_8)), (arm, .inr (1, [.ref arp, .int rmgone, .int rmmet, .int rmstill, .int rmdone, .ref armh, .ref armw, .ref arms, .ref armu])), (armh, .inl (cI, 6, .inl rmhour)), (armw, .inl (cI, 6, .inl rmworn)), (arms, .inl (cI, 5, .inl rmsquare)), (armu, .inl (cI, 5, .inl rmunder))] H := hP
          have hD : va_D A [(ar, .inr (3, [.ref arp, .ref arm, .ref arn])), (arn, .inl (cI, 3, .inl rnum)), (arp, .inr (2, [.int rpsq, .int rppa, .int rppe, .int rpwo_6, .ref arpk, .ref arpq, .ref arpr])), (arpk, .inl (cI, 6, .inl rpkind)), (arpq, .inl (cI, 6, .inl rpwsq_7)), (arpr, .inl (cI, 6, .inl rpwhr_8)), (arm, .inr (1, [.ref arp, .int rmgone, .int rmmet, .int rmstill, .int rmdone, .ref armh, .ref armw, .ref arms, .ref armu])), (armh, .inl (cI, 6, .inl rmhour)), (armw, .inl (cI, 6, .inl rmworn)), (arms, .inl (cI, 5, .inl rmsquare)), (armu, .inl (cI, 5, .inl rmunder))] := hD
          refine lv_if_eq (tgt := 56) hx hb dX3_accepts_49 (by decide) (fun c10 => ?_) (fun c10 => ?_)
          · have hF := op_pos c10 hF
            refine lv_iconst (v := (0 : Int32)) hx hb dX3_accepts_56 (by decide) ?_
            cases hF
            rw [hQ]
            exact xrz hC rfl hP hS dX3_accepts_57
          · have hF := op_neg c10 hF
            refine lv_iconst (v := (1 : Int32)) hx hb dX3_accepts_52 (by decide) ?_
            refine lv_goto (tgt := 57) hx hb dX3_accepts_53 (by decide) ?_
            cases hF
            rw [hQ]
            exact xrz hC rfl hP hS dX3_accepts_57
      · have hF := op_pos c3 hF
        refine lv_aload_n hx hb dX3_accepts_32 rfl (lv_at hl 0 rfl) ?_
        obtain ⟨⟨r11, rppe_12, rmsquare_13⟩, hb14, hF⟩ := op_bind hF
        refine xVi (As := []) (rest := []) hC hP hD hS [0, 1, 2, 3, 4, 5, 6, 7, 8, 9, 10] (c_X3_acceptsPerson l D cI cC cM ar arn arp arpk arpq arpr arm armh armw arms armu rnum rpsq rppa rppe rpwo rpkind rpwsq rpwhr rmgone rmmet rmstill rmdone rmhour rmworn rmsquare rmunder r11 rppe_12 rmsquare_13 hb14) (cwV 0 hts gX3_accepts_X3_acceptsPerson rfl rfl rfl ⟨rfl, pd_X3_acceptsPerson⟩ ⟨Nat.le_of_ble_eq_true rfl, Nat.le_of_ble_eq_true rfl⟩) rfl rfl rfl 0 3 rfl rfl rfl rfl hl.1 rfl (Nat.le_of_ble_eq_true rfl) dX3_accepts_33 ⟨Nat.zero_le _, Nat.zero_le _⟩ (fun H locs hP hD hS => ?_)
        have hP : va_P D vwCl [(ar, .inr (3, [.ref arp, .ref arm, .ref arn])), (arn, .inl (cI, 3, .inl rnum)), (arp, .inr (2, [.int rpsq, .int rppa, .int rppe_12, .int rpwo, .ref arpk, .ref arpq, .ref arpr])), (arpk, .inl (cI, 6, .inl rpkind)), (arpq, .inl (cI, 6, .inl rpwsq)), (arpr, .inl (cI, 6, .inl rpwhr)), (arm, .inr (1, [.ref arp, .int rmgone, .int rmmet, .int rmstill, .int rmdone, .ref armh, .ref armw, .ref arms, .ref armu])), (armh, .inl (cI, 6, .inl rmhour)), (armw, .inl (cI, 6, .inl rmworn)), (arms, .inl (cI, 5, .inl rmsquare_13)), (armu, .inl (cI, 5, .inl rmunder))] H := hP
        have hD : va_D A [(ar, .inr (3, [.ref arp, .ref arm, .ref arn])), (arn, .inl (cI, 3, .inl rnum)), (arp, .inr (2, [.int rpsq, .int rppa, .int rppe_12, .int rpwo, .ref arpk, .ref arpq, .ref arpr])), (arpk, .inl (cI, 6, .inl rpkind)), (arpq, .inl (cI, 6, .inl rpwsq)), (arpr, .inl (cI, 6, .inl rpwhr)), (arm, .inr (1, [.ref arp, .int rmgone, .int rmmet, .int rmstill, .int rmdone, .ref armh, .ref armw, .ref arms, .ref armu])), (armh, .inl (cI, 6, .inl rmhour)), (armw, .inl (cI, 6, .inl rmworn)), (arms, .inl (cI, 5, .inl rmsquare_13)), (armu, .inl (cI, 5, .inl rmunder))] := hD
        refine lv_if_ne (tgt := 52) hx hb dX3_accepts_36 (by decide) (fun c15 => ?_) (fun c15 => ?_)
        · have hF := op_neg c15 hF
          refine lv_iconst (v := (1 : Int32)) hx hb dX3_accepts_52 (by decide) ?_
          refine lv_goto (tgt := 57) hx hb dX3_accepts_53 (by decide) ?_
          cases hF
          rw [hQ]
          exact xrz hC rfl hP hS dX3_accepts_57
        · have hF := op_pos c15 hF
          refine lv_iload_n hx hb dX3_accepts_39 rfl (lv_at hl 1 rfl) ?_
          refine lv_bipush (v := (119 : Int32)) hx hb dX3_accepts_40 (by decide) ?_
          refine lv_icmp_ne (tgt := 56) hx hb dX3_accepts_42 (by decide) (fun c16 => ?_) (fun c16 => ?_)
          · have hF := op_neg c16 hF
            refine lv_iconst (v := (0 : Int32)) hx hb dX3_accepts_56 (by decide) ?_
            cases hF
            rw [hQ]
            exact xrz hC rfl hP hS dX3_accepts_57
          · have hF := op_pos c16 hF
            refine lv_aload_n hx hb dX3_accepts_45 rfl (lv_at hl 0 rfl) ?_
            obtain ⟨⟨r17, rpwo_18, rpwsq_19, rpwhr_20⟩, hb21, hF⟩ := op_bind hF
            refine xVi (As := []) (rest := []) hC hP hD hS [0, 1, 2, 3, 4, 5, 6, 7, 8, 9, 10] (c_X3_acceptsWork l D cI cC cM ar arn arp arpk arpq arpr arm armh armw arms armu rnum rpsq rppa rppe_12 rpwo rpkind rpwsq rpwhr rmgone rmmet rmstill rmdone rmhour rmworn rmsquare_13 rmunder r17 rpwo_18 rpwsq_19 rpwhr_20 hb21) (cwV 0 hts gX3_accepts_X3_acceptsWork rfl rfl rfl ⟨rfl, pd_X3_acceptsWork⟩ ⟨Nat.le_of_ble_eq_true rfl, Nat.le_of_ble_eq_true rfl⟩) rfl rfl rfl 0 3 rfl rfl rfl rfl hl.1 rfl (Nat.le_of_ble_eq_true rfl) dX3_accepts_46 ⟨Nat.zero_le _, Nat.zero_le _⟩ (fun H locs hP hD hS => ?_)
            have hP : va_P D vwCl [(ar, .inr (3, [.ref arp, .ref arm, .ref arn])), (arn, .inl (cI, 3, .inl rnum)), (arp, .inr (2, [.int rpsq, .int rppa, .int rppe_12, .int rpwo_18, .ref arpk, .ref arpq, .ref arpr])), (arpk, .inl (cI, 6, .inl rpkind)), (arpq, .inl (cI, 6, .inl rpwsq_19)), (arpr, .inl (cI, 6, .inl rpwhr_20)), (arm, .inr (1, [.ref arp, .int rmgone, .int rmmet, .int rmstill, .int rmdone, .ref armh, .ref armw, .ref arms, .ref armu])), (armh, .inl (cI, 6, .inl rmhour)), (armw, .inl (cI, 6, .inl rmworn)), (arms, .inl (cI, 5, .inl rmsquare_13)), (armu, .inl (cI, 5, .inl rmunder))] H := hP
            have hD : va_D A [(ar, .inr (3, [.ref arp, .ref arm, .ref arn])), (arn, .inl (cI, 3, .inl rnum)), (arp, .inr (2, [.int rpsq, .int rppa, .int rppe_12, .int rpwo_18, .ref arpk, .ref arpq, .ref arpr])), (arpk, .inl (cI, 6, .inl rpkind)), (arpq, .inl (cI, 6, .inl rpwsq_19)), (arpr, .inl (cI, 6, .inl rpwhr_20)), (arm, .inr (1, [.ref arp, .int rmgone, .int rmmet, .int rmstill, .int rmdone, .ref armh, .ref armw, .ref arms, .ref armu])), (armh, .inl (cI, 6, .inl rmhour)), (armw, .inl (cI, 6, .inl rmworn)), (arms, .inl (cI, 5, .inl rmsquare_13)), (armu, .inl (cI, 5, .inl rmunder))] := hD
            refine lv_if_eq (tgt := 56) hx hb dX3_accepts_49 (by decide) (fun c22 => ?_) (fun c22 => ?_)
            · have hF := op_pos c22 hF
              refine lv_iconst (v := (0 : Int32)) hx hb dX3_accepts_56 (by decide) ?_
              cases hF
              rw [hQ]
              exact xrz hC rfl hP hS dX3_accepts_57
            · have hF := op_neg c22 hF
              refine lv_iconst (v := (1 : Int32)) hx hb dX3_accepts_52 (by decide) ?_
              refine lv_goto (tgt := 57) hx hb dX3_accepts_53 (by decide) ?_
              cases hF
              rw [hQ]
              exact xrz hC rfl hP hS dX3_accepts_57
    · have hF := op_pos c2 hF
      refine lv_aload_n hx hb dX3_accepts_19 rfl (lv_at hl 0 rfl) ?_
      obtain ⟨⟨r23, rppa_24, rpkind_25, rmhour_26, rmworn_27⟩, hb28, hF⟩ := op_bind hF
      refine xVi (As := []) (rest := []) hC hP hD hS [0, 1, 2, 3, 4, 5, 6, 7, 8, 9, 10] (c_X3_acceptsParasol l D cI cC cM ar arn arp arpk arpq arpr arm armh armw arms armu rnum rpsq rppa rppe rpwo rpkind rpwsq rpwhr rmgone rmmet rmstill rmdone rmhour rmworn rmsquare rmunder r23 rppa_24 rpkind_25 rmhour_26 rmworn_27 hb28) (cwV 0 hts gX3_accepts_X3_acceptsParasol rfl rfl rfl ⟨rfl, pd_X3_acceptsParasol⟩ ⟨Nat.le_of_ble_eq_true rfl, Nat.le_of_ble_eq_true rfl⟩) rfl rfl rfl 0 3 rfl rfl rfl rfl hl.1 rfl (Nat.le_of_ble_eq_true rfl) dX3_accepts_20 ⟨Nat.zero_le _, Nat.zero_le _⟩ (fun H locs hP hD hS => ?_)
      have hP : va_P D vwCl [(ar, .inr (3, [.ref arp, .ref arm, .ref arn])), (arn, .inl (cI, 3, .inl rnum)), (arp, .inr (2, [.int rpsq, .int rppa_24, .int rppe, .int rpwo, .ref arpk, .ref arpq, .ref arpr])), (arpk, .inl (cI, 6, .inl rpkind_25)), (arpq, .inl (cI, 6, .inl rpwsq)), (arpr, .inl (cI, 6, .inl rpwhr)), (arm, .inr (1, [.ref arp, .int rmgone, .int rmmet, .int rmstill, .int rmdone, .ref armh, .ref armw, .ref arms, .ref armu])), (armh, .inl (cI, 6, .inl rmhour_26)), (armw, .inl (cI, 6, .inl rmworn_27)), (arms, .inl (cI, 5, .inl rmsquare)), (armu, .inl (cI, 5, .inl rmunder))] H := hP
      have hD : va_D A [(ar, .inr (3, [.ref arp, .ref arm, .ref arn])), (arn, .inl (cI, 3, .inl rnum)), (arp, .inr (2, [.int rpsq, .int rppa_24, .int rppe, .int rpwo, .ref arpk, .ref arpq, .ref arpr])), (arpk, .inl (cI, 6, .inl rpkind_25)), (arpq, .inl (cI, 6, .inl rpwsq)), (arpr, .inl (cI, 6, .inl rpwhr)), (arm, .inr (1, [.ref arp, .int rmgone, .int rmmet, .int rmstill, .int rmdone, .ref armh, .ref armw, .ref arms, .ref armu])), (armh, .inl (cI, 6, .inl rmhour_26)), (armw, .inl (cI, 6, .inl rmworn_27)), (arms, .inl (cI, 5, .inl rmsquare)), (armu, .inl (cI, 5, .inl rmunder))] := hD
      refine lv_if_ne (tgt := 52) hx hb dX3_accepts_23 (by decide) (fun c29 => ?_) (fun c29 => ?_)
      · have hF := op_neg c29 hF
        refine lv_iconst (v := (1 : Int32)) hx hb dX3_accepts_52 (by decide) ?_
        refine lv_goto (tgt := 57) hx hb dX3_accepts_53 (by decide) ?_
        cases hF
        rw [hQ]
        exact xrz hC rfl hP hS dX3_accepts_57
      · have hF := op_pos c29 hF
        refine lv_iload_n hx hb dX3_accepts_26 rfl (lv_at hl 1 rfl) ?_
        refine lv_bipush (v := (112 : Int32)) hx hb dX3_accepts_27 (by decide) ?_
        refine lv_icmp_ne (tgt := 39) hx hb dX3_accepts_29 (by decide) (fun c30 => ?_) (fun c30 => ?_)
        · have hF := op_neg c30 hF
          refine lv_iload_n hx hb dX3_accepts_39 rfl (lv_at hl 1 rfl) ?_
          refine lv_bipush (v := (119 : Int32)) hx hb dX3_accepts_40 (by decide) ?_
          refine lv_icmp_ne (tgt := 56) hx hb dX3_accepts_42 (by decide) (fun c31 => ?_) (fun c31 => ?_)
          · have hF := op_neg c31 hF
            refine lv_iconst (v := (0 : Int32)) hx hb dX3_accepts_56 (by decide) ?_
            cases hF
            rw [hQ]
            exact xrz hC rfl hP hS dX3_accepts_57
          · have hF := op_pos c31 hF
            refine lv_aload_n hx hb dX3_accepts_45 rfl (lv_at hl 0 rfl) ?_
            obtain ⟨⟨r32, rpwo_33, rpwsq_34, rpwhr_35⟩, hb36, hF⟩ := op_bind hF
            refine xVi (As := []) (rest := []) hC hP hD hS [0, 1, 2, 3, 4, 5, 6, 7, 8, 9, 10] (c_X3_acceptsWork l D cI cC cM ar arn arp arpk arpq arpr arm armh armw arms armu rnum rpsq rppa_24 rppe rpwo rpkind_25 rpwsq rpwhr rmgone rmmet rmstill rmdone rmhour_26 rmworn_27 rmsquare rmunder r32 rpwo_33 rpwsq_34 rpwhr_35 hb36) (cwV 0 hts gX3_accepts_X3_acceptsWork rfl rfl rfl ⟨rfl, pd_X3_acceptsWork⟩ ⟨Nat.le_of_ble_eq_true rfl, Nat.le_of_ble_eq_true rfl⟩) rfl rfl rfl 0 3 rfl rfl rfl rfl hl.1 rfl (Nat.le_of_ble_eq_true rfl) dX3_accepts_46 ⟨Nat.zero_le _, Nat.zero_le _⟩ (fun H locs hP hD hS => ?_)
            have hP : va_P D vwCl [(ar, .inr (3, [.ref arp, .ref arm, .ref arn])), (arn, .inl (cI, 3, .inl rnum)), (arp, .inr (2, [.int rpsq, .int rppa_24, .int rppe, .int rpwo_33, .ref arpk, .ref arpq, .ref arpr])), (arpk, .inl (cI, 6, .inl rpkind_25)), (arpq, .inl (cI, 6, .inl rpwsq_34)), (arpr, .inl (cI, 6, .inl rpwhr_35)), (arm, .inr (1, [.ref arp, .int rmgone, .int rmmet, .int rmstill, .int rmdone, .ref armh, .ref armw, .ref arms, .ref armu])), (armh, .inl (cI, 6, .inl rmhour_26)), (armw, .inl (cI, 6, .inl rmworn_27)), (arms, .inl (cI, 5, .inl rmsquare)), (armu, .inl (cI, 5, .inl rmunder))] H := hP
            have hD : va_D A [(ar, .inr (3, [.ref arp, .ref arm, .ref arn])), (arn, .inl (cI, 3, .inl rnum)), (arp, .inr (2, [.int rpsq, .int rppa_24, .int rppe, .int rpwo_33, .ref arpk, .ref arpq, .ref arpr])), (arpk, .inl (cI, 6, .inl rpkind_25)), (arpq, .inl (cI, 6, .inl rpwsq_34)), (arpr, .inl (cI, 6, .inl rpwhr_35)), (arm, .inr (1, [.ref arp, .int rmgone, .int rmmet, .int rmstill, .int rmdone, .ref armh, .ref armw, .ref arms, .ref armu])), (armh, .inl (cI, 6, .inl rmhour_26)), (armw, .inl (cI, 6, .inl rmworn_27)), (arms, .inl (cI, 5, .inl rmsquare)), (armu, .inl (cI, 5, .inl rmunder))] := hD
            refine lv_if_eq (tgt := 56) hx hb dX3_accepts_49 (by decide) (fun c37 => ?_) (fun c37 => ?_)
            · have hF := op_pos c37 hF
              refine lv_iconst (v := (0 : Int32)) hx hb dX3_accepts_56 (by decide) ?_
              cases hF
              rw [hQ]
              exact xrz hC rfl hP hS dX3_accepts_57
            · have hF := op_neg c37 hF
              refine lv_iconst (v := (1 : Int32)) hx hb dX3_accepts_52 (by decide) ?_
              refine lv_goto (tgt := 57) hx hb dX3_accepts_53 (by decide) ?_
              cases hF
              rw [hQ]
              exact xrz hC rfl hP hS dX3_accepts_57
        · have hF := op_pos c30 hF
          refine lv_aload_n hx hb dX3_accepts_32 rfl (lv_at hl 0 rfl) ?_
          obtain ⟨⟨r38, rppe_39, rmsquare_40⟩, hb41, hF⟩ := op_bind hF
          refine xVi (As := []) (rest := []) hC hP hD hS [0, 1, 2, 3, 4, 5, 6, 7, 8, 9, 10] (c_X3_acceptsPerson l D cI cC cM ar arn arp arpk arpq arpr arm armh armw arms armu rnum rpsq rppa_24 rppe rpwo rpkind_25 rpwsq rpwhr rmgone rmmet rmstill rmdone rmhour_26 rmworn_27 rmsquare rmunder r38 rppe_39 rmsquare_40 hb41) (cwV 0 hts gX3_accepts_X3_acceptsPerson rfl rfl rfl ⟨rfl, pd_X3_acceptsPerson⟩ ⟨Nat.le_of_ble_eq_true rfl, Nat.le_of_ble_eq_true rfl⟩) rfl rfl rfl 0 3 rfl rfl rfl rfl hl.1 rfl (Nat.le_of_ble_eq_true rfl) dX3_accepts_33 ⟨Nat.zero_le _, Nat.zero_le _⟩ (fun H locs hP hD hS => ?_)
          have hP : va_P D vwCl [(ar, .inr (3, [.ref arp, .ref arm, .ref arn])), (arn, .inl (cI, 3, .inl rnum)), (arp, .inr (2, [.int rpsq, .int rppa_24, .int rppe_39, .int rpwo, .ref arpk, .ref arpq, .ref arpr])), (arpk, .inl (cI, 6, .inl rpkind_25)), (arpq, .inl (cI, 6, .inl rpwsq)), (arpr, .inl (cI, 6, .inl rpwhr)), (arm, .inr (1, [.ref arp, .int rmgone, .int rmmet, .int rmstill, .int rmdone, .ref armh, .ref armw, .ref arms, .ref armu])), (armh, .inl (cI, 6, .inl rmhour_26)), (armw, .inl (cI, 6, .inl rmworn_27)), (arms, .inl (cI, 5, .inl rmsquare_40)), (armu, .inl (cI, 5, .inl rmunder))] H := hP
          have hD : va_D A [(ar, .inr (3, [.ref arp, .ref arm, .ref arn])), (arn, .inl (cI, 3, .inl rnum)), (arp, .inr (2, [.int rpsq, .int rppa_24, .int rppe_39, .int rpwo, .ref arpk, .ref arpq, .ref arpr])), (arpk, .inl (cI, 6, .inl rpkind_25)), (arpq, .inl (cI, 6, .inl rpwsq)), (arpr, .inl (cI, 6, .inl rpwhr)), (arm, .inr (1, [.ref arp, .int rmgone, .int rmmet, .int rmstill, .int rmdone, .ref armh, .ref armw, .ref arms, .ref armu])), (armh, .inl (cI, 6, .inl rmhour_26)), (armw, .inl (cI, 6, .inl rmworn_27)), (arms, .inl (cI, 5, .inl rmsquare_40)), (armu, .inl (cI, 5, .inl rmunder))] := hD
          refine lv_if_ne (tgt := 52) hx hb dX3_accepts_36 (by decide) (fun c42 => ?_) (fun c42 => ?_)
          · have hF := op_neg c42 hF
            refine lv_iconst (v := (1 : Int32)) hx hb dX3_accepts_52 (by decide) ?_
            refine lv_goto (tgt := 57) hx hb dX3_accepts_53 (by decide) ?_
            cases hF
            rw [hQ]
            exact xrz hC rfl hP hS dX3_accepts_57
          · have hF := op_pos c42 hF
            refine lv_iload_n hx hb dX3_accepts_39 rfl (lv_at hl 1 rfl) ?_
            refine lv_bipush (v := (119 : Int32)) hx hb dX3_accepts_40 (by decide) ?_
            refine lv_icmp_ne (tgt := 56) hx hb dX3_accepts_42 (by decide) (fun c43 => ?_) (fun c43 => ?_)
            · have hF := op_neg c43 hF
              refine lv_iconst (v := (0 : Int32)) hx hb dX3_accepts_56 (by decide) ?_
              cases hF
              rw [hQ]
              exact xrz hC rfl hP hS dX3_accepts_57
            · have hF := op_pos c43 hF
              refine lv_aload_n hx hb dX3_accepts_45 rfl (lv_at hl 0 rfl) ?_
              obtain ⟨⟨r44, rpwo_45, rpwsq_46, rpwhr_47⟩, hb48, hF⟩ := op_bind hF
              refine xVi (As := []) (rest := []) hC hP hD hS [0, 1, 2, 3, 4, 5, 6, 7, 8, 9, 10] (c_X3_acceptsWork l D cI cC cM ar arn arp arpk arpq arpr arm armh armw arms armu rnum rpsq rppa_24 rppe_39 rpwo rpkind_25 rpwsq rpwhr rmgone rmmet rmstill rmdone rmhour_26 rmworn_27 rmsquare_40 rmunder r44 rpwo_45 rpwsq_46 rpwhr_47 hb48) (cwV 0 hts gX3_accepts_X3_acceptsWork rfl rfl rfl ⟨rfl, pd_X3_acceptsWork⟩ ⟨Nat.le_of_ble_eq_true rfl, Nat.le_of_ble_eq_true rfl⟩) rfl rfl rfl 0 3 rfl rfl rfl rfl hl.1 rfl (Nat.le_of_ble_eq_true rfl) dX3_accepts_46 ⟨Nat.zero_le _, Nat.zero_le _⟩ (fun H locs hP hD hS => ?_)
              have hP : va_P D vwCl [(ar, .inr (3, [.ref arp, .ref arm, .ref arn])), (arn, .inl (cI, 3, .inl rnum)), (arp, .inr (2, [.int rpsq, .int rppa_24, .int rppe_39, .int rpwo_45, .ref arpk, .ref arpq, .ref arpr])), (arpk, .inl (cI, 6, .inl rpkind_25)), (arpq, .inl (cI, 6, .inl rpwsq_46)), (arpr, .inl (cI, 6, .inl rpwhr_47)), (arm, .inr (1, [.ref arp, .int rmgone, .int rmmet, .int rmstill, .int rmdone, .ref armh, .ref armw, .ref arms, .ref armu])), (armh, .inl (cI, 6, .inl rmhour_26)), (armw, .inl (cI, 6, .inl rmworn_27)), (arms, .inl (cI, 5, .inl rmsquare_40)), (armu, .inl (cI, 5, .inl rmunder))] H := hP
              have hD : va_D A [(ar, .inr (3, [.ref arp, .ref arm, .ref arn])), (arn, .inl (cI, 3, .inl rnum)), (arp, .inr (2, [.int rpsq, .int rppa_24, .int rppe_39, .int rpwo_45, .ref arpk, .ref arpq, .ref arpr])), (arpk, .inl (cI, 6, .inl rpkind_25)), (arpq, .inl (cI, 6, .inl rpwsq_46)), (arpr, .inl (cI, 6, .inl rpwhr_47)), (arm, .inr (1, [.ref arp, .int rmgone, .int rmmet, .int rmstill, .int rmdone, .ref armh, .ref armw, .ref arms, .ref armu])), (armh, .inl (cI, 6, .inl rmhour_26)), (armw, .inl (cI, 6, .inl rmworn_27)), (arms, .inl (cI, 5, .inl rmsquare_40)), (armu, .inl (cI, 5, .inl rmunder))] := hD
              refine lv_if_eq (tgt := 56) hx hb dX3_accepts_49 (by decide) (fun c49 => ?_) (fun c49 => ?_)
              · have hF := op_pos c49 hF
                refine lv_iconst (v := (0 : Int32)) hx hb dX3_accepts_56 (by decide) ?_
                cases hF
                rw [hQ]
                exact xrz hC rfl hP hS dX3_accepts_57
              · have hF := op_neg c49 hF
                refine lv_iconst (v := (1 : Int32)) hx hb dX3_accepts_52 (by decide) ?_
                refine lv_goto (tgt := 57) hx hb dX3_accepts_53 (by decide) ?_
                cases hF
                rw [hQ]
                exact xrz hC rfl hP hS dX3_accepts_57
  · have hF := op_pos c1 hF
    refine lv_aload_n hx hb dX3_accepts_6 rfl (lv_at hl 0 rfl) ?_
    obtain ⟨⟨r50, rpsq_51⟩, hb52, hF⟩ := op_bind hF
    refine xVi (As := []) (rest := []) hC hP hD hS [0, 1, 2, 3, 4, 5, 6, 7, 8, 9, 10] (c_X3_acceptsSquares l D cI cC cM ar arn arp arpk arpq arpr arm armh armw arms armu rnum rpsq rppa rppe rpwo rpkind rpwsq rpwhr rmgone rmmet rmstill rmdone rmhour rmworn rmsquare rmunder r50 rpsq_51 hb52) (cwV 0 hts gX3_accepts_X3_acceptsSquares rfl rfl rfl ⟨rfl, pd_X3_acceptsSquares⟩ ⟨Nat.le_of_ble_eq_true rfl, Nat.le_of_ble_eq_true rfl⟩) rfl rfl rfl 0 3 rfl rfl rfl rfl hl.1 rfl (Nat.le_of_ble_eq_true rfl) dX3_accepts_7 ⟨Nat.zero_le _, Nat.zero_le _⟩ (fun H locs hP hD hS => ?_)
    have hP : va_P D vwCl [(ar, .inr (3, [.ref arp, .ref arm, .ref arn])), (arn, .inl (cI, 3, .inl rnum)), (arp, .inr (2, [.int rpsq_51, .int rppa, .int rppe, .int rpwo, .ref arpk, .ref arpq, .ref arpr])), (arpk, .inl (cI, 6, .inl rpkind)), (arpq, .inl (cI, 6, .inl rpwsq)), (arpr, .inl (cI, 6, .inl rpwhr)), (arm, .inr (1, [.ref arp, .int rmgone, .int rmmet, .int rmstill, .int rmdone, .ref armh, .ref armw, .ref arms, .ref armu])), (armh, .inl (cI, 6, .inl rmhour)), (armw, .inl (cI, 6, .inl rmworn)), (arms, .inl (cI, 5, .inl rmsquare)), (armu, .inl (cI, 5, .inl rmunder))] H := hP
    have hD : va_D A [(ar, .inr (3, [.ref arp, .ref arm, .ref arn])), (arn, .inl (cI, 3, .inl rnum)), (arp, .inr (2, [.int rpsq_51, .int rppa, .int rppe, .int rpwo, .ref arpk, .ref arpq, .ref arpr])), (arpk, .inl (cI, 6, .inl rpkind)), (arpq, .inl (cI, 6, .inl rpwsq)), (arpr, .inl (cI, 6, .inl rpwhr)), (arm, .inr (1, [.ref arp, .int rmgone, .int rmmet, .int rmstill, .int rmdone, .ref armh, .ref armw, .ref arms, .ref armu])), (armh, .inl (cI, 6, .inl rmhour)), (armw, .inl (cI, 6, .inl rmworn)), (arms, .inl (cI, 5, .inl rmsquare)), (armu, .inl (cI, 5, .inl rmunder))] := hD
    refine lv_if_ne (tgt := 52) hx hb dX3_accepts_10 (by decide) (fun c53 => ?_) (fun c53 => ?_)
    · have hF := op_neg c53 hF
      refine lv_iconst (v := (1 : Int32)) hx hb dX3_accepts_52 (by decide) ?_
      refine lv_goto (tgt := 57) hx hb dX3_accepts_53 (by decide) ?_
      cases hF
      rw [hQ]
      exact xrz hC rfl hP hS dX3_accepts_57
    · have hF := op_pos c53 hF
      refine lv_iload_n hx hb dX3_accepts_13 rfl (lv_at hl 1 rfl) ?_
      refine lv_bipush (v := (117 : Int32)) hx hb dX3_accepts_14 (by decide) ?_
      refine lv_icmp_ne (tgt := 26) hx hb dX3_accepts_16 (by decide) (fun c54 => ?_) (fun c54 => ?_)
      · have hF := op_neg c54 hF
        refine lv_iload_n hx hb dX3_accepts_26 rfl (lv_at hl 1 rfl) ?_
        refine lv_bipush (v := (112 : Int32)) hx hb dX3_accepts_27 (by decide) ?_
        refine lv_icmp_ne (tgt := 39) hx hb dX3_accepts_29 (by decide) (fun c55 => ?_) (fun c55 => ?_)
        · have hF := op_neg c55 hF
          refine lv_iload_n hx hb dX3_accepts_39 rfl (lv_at hl 1 rfl) ?_
          refine lv_bipush (v := (119 : Int32)) hx hb dX3_accepts_40 (by decide) ?_
          refine lv_icmp_ne (tgt := 56) hx hb dX3_accepts_42 (by decide) (fun c56 => ?_) (fun c56 => ?_)
          · have hF := op_neg c56 hF
            refine lv_iconst (v := (0 : Int32)) hx hb dX3_accepts_56 (by decide) ?_
            cases hF
            rw [hQ]
            exact xrz hC rfl hP hS dX3_accepts_57
          · have hF := op_pos c56 hF
            refine lv_aload_n hx hb dX3_accepts_45 rfl (lv_at hl 0 rfl) ?_
            obtain ⟨⟨r57, rpwo_58, rpwsq_59, rpwhr_60⟩, hb61, hF⟩ := op_bind hF
            refine xVi (As := []) (rest := []) hC hP hD hS [0, 1, 2, 3, 4, 5, 6, 7, 8, 9, 10] (c_X3_acceptsWork l D cI cC cM ar arn arp arpk arpq arpr arm armh armw arms armu rnum rpsq_51 rppa rppe rpwo rpkind rpwsq rpwhr rmgone rmmet rmstill rmdone rmhour rmworn rmsquare rmunder r57 rpwo_58 rpwsq_59 rpwhr_60 hb61) (cwV 0 hts gX3_accepts_X3_acceptsWork rfl rfl rfl ⟨rfl, pd_X3_acceptsWork⟩ ⟨Nat.le_of_ble_eq_true rfl, Nat.le_of_ble_eq_true rfl⟩) rfl rfl rfl 0 3 rfl rfl rfl rfl hl.1 rfl (Nat.le_of_ble_eq_true rfl) dX3_accepts_46 ⟨Nat.zero_le _, Nat.zero_le _⟩ (fun H locs hP hD hS => ?_)
            have hP : va_P D vwCl [(ar, .inr (3, [.ref arp, .ref arm, .ref arn])), (arn, .inl (cI, 3, .inl rnum)), (arp, .inr (2, [.int rpsq_51, .int rppa, .int rppe, .int rpwo_58, .ref arpk, .ref arpq, .ref arpr])), (arpk, .inl (cI, 6, .inl rpkind)), (arpq, .inl (cI, 6, .inl rpwsq_59)), (arpr, .inl (cI, 6, .inl rpwhr_60)), (arm, .inr (1, [.ref arp, .int rmgone, .int rmmet, .int rmstill, .int rmdone, .ref armh, .ref armw, .ref arms, .ref armu])), (armh, .inl (cI, 6, .inl rmhour)), (armw, .inl (cI, 6, .inl rmworn)), (arms, .inl (cI, 5, .inl rmsquare)), (armu, .inl (cI, 5, .inl rmunder))] H := hP
            have hD : va_D A [(ar, .inr (3, [.ref arp, .ref arm, .ref arn])), (arn, .inl (cI, 3, .inl rnum)), (arp, .inr (2, [.int rpsq_51, .int rppa, .int rppe, .int rpwo_58, .ref arpk, .ref arpq, .ref arpr])), (arpk, .inl (cI, 6, .inl rpkind)), (arpq, .inl (cI, 6, .inl rpwsq_59)), (arpr, .inl (cI, 6, .inl rpwhr_60)), (arm, .inr (1, [.ref arp, .int rmgone, .int rmmet, .int rmstill, .int rmdone, .ref armh, .ref armw, .ref arms, .ref armu])), (armh, .inl (cI, 6, .inl rmhour)), (armw, .inl (cI, 6, .inl rmworn)), (arms, .inl (cI, 5, .inl rmsquare)), (armu, .inl (cI, 5, .inl rmunder))] := hD
            refine lv_if_eq (tgt := 56) hx hb dX3_accepts_49 (by decide) (fun c62 => ?_) (fun c62 => ?_)
            · have hF := op_pos c62 hF
              refine lv_iconst (v := (0 : Int32)) hx hb dX3_accepts_56 (by decide) ?_
              cases hF
              rw [hQ]
              exact xrz hC rfl hP hS dX3_accepts_57
            · have hF := op_neg c62 hF
              refine lv_iconst (v := (1 : Int32)) hx hb dX3_accepts_52 (by decide) ?_
              refine lv_goto (tgt := 57) hx hb dX3_accepts_53 (by decide) ?_
              cases hF
              rw [hQ]
              exact xrz hC rfl hP hS dX3_accepts_57
        · have hF := op_pos c55 hF
          refine lv_aload_n hx hb dX3_accepts_32 rfl (lv_at hl 0 rfl) ?_
          obtain ⟨⟨r63, rppe_64, rmsquare_65⟩, hb66, hF⟩ := op_bind hF
          refine xVi (As := []) (rest := []) hC hP hD hS [0, 1, 2, 3, 4, 5, 6, 7, 8, 9, 10] (c_X3_acceptsPerson l D cI cC cM ar arn arp arpk arpq arpr arm armh armw arms armu rnum rpsq_51 rppa rppe rpwo rpkind rpwsq rpwhr rmgone rmmet rmstill rmdone rmhour rmworn rmsquare rmunder r63 rppe_64 rmsquare_65 hb66) (cwV 0 hts gX3_accepts_X3_acceptsPerson rfl rfl rfl ⟨rfl, pd_X3_acceptsPerson⟩ ⟨Nat.le_of_ble_eq_true rfl, Nat.le_of_ble_eq_true rfl⟩) rfl rfl rfl 0 3 rfl rfl rfl rfl hl.1 rfl (Nat.le_of_ble_eq_true rfl) dX3_accepts_33 ⟨Nat.zero_le _, Nat.zero_le _⟩ (fun H locs hP hD hS => ?_)
          have hP : va_P D vwCl [(ar, .inr (3, [.ref arp, .ref arm, .ref arn])), (arn, .inl (cI, 3, .inl rnum)), (arp, .inr (2, [.int rpsq_51, .int rppa, .int rppe_64, .int rpwo, .ref arpk, .ref arpq, .ref arpr])), (arpk, .inl (cI, 6, .inl rpkind)), (arpq, .inl (cI, 6, .inl rpwsq)), (arpr, .inl (cI, 6, .inl rpwhr)), (arm, .inr (1, [.ref arp, .int rmgone, .int rmmet, .int rmstill, .int rmdone, .ref armh, .ref armw, .ref arms, .ref armu])), (armh, .inl (cI, 6, .inl rmhour)), (armw, .inl (cI, 6, .inl rmworn)), (arms, .inl (cI, 5, .inl rmsquare_65)), (armu, .inl (cI, 5, .inl rmunder))] H := hP
          have hD : va_D A [(ar, .inr (3, [.ref arp, .ref arm, .ref arn])), (arn, .inl (cI, 3, .inl rnum)), (arp, .inr (2, [.int rpsq_51, .int rppa, .int rppe_64, .int rpwo, .ref arpk, .ref arpq, .ref arpr])), (arpk, .inl (cI, 6, .inl rpkind)), (arpq, .inl (cI, 6, .inl rpwsq)), (arpr, .inl (cI, 6, .inl rpwhr)), (arm, .inr (1, [.ref arp, .int rmgone, .int rmmet, .int rmstill, .int rmdone, .ref armh, .ref armw, .ref arms, .ref armu])), (armh, .inl (cI, 6, .inl rmhour)), (armw, .inl (cI, 6, .inl rmworn)), (arms, .inl (cI, 5, .inl rmsquare_65)), (armu, .inl (cI, 5, .inl rmunder))] := hD
          refine lv_if_ne (tgt := 52) hx hb dX3_accepts_36 (by decide) (fun c67 => ?_) (fun c67 => ?_)
          · have hF := op_neg c67 hF
            refine lv_iconst (v := (1 : Int32)) hx hb dX3_accepts_52 (by decide) ?_
            refine lv_goto (tgt := 57) hx hb dX3_accepts_53 (by decide) ?_
            cases hF
            rw [hQ]
            exact xrz hC rfl hP hS dX3_accepts_57
          · have hF := op_pos c67 hF
            refine lv_iload_n hx hb dX3_accepts_39 rfl (lv_at hl 1 rfl) ?_
            refine lv_bipush (v := (119 : Int32)) hx hb dX3_accepts_40 (by decide) ?_
            refine lv_icmp_ne (tgt := 56) hx hb dX3_accepts_42 (by decide) (fun c68 => ?_) (fun c68 => ?_)
            · have hF := op_neg c68 hF
              refine lv_iconst (v := (0 : Int32)) hx hb dX3_accepts_56 (by decide) ?_
              cases hF
              rw [hQ]
              exact xrz hC rfl hP hS dX3_accepts_57
            · have hF := op_pos c68 hF
              refine lv_aload_n hx hb dX3_accepts_45 rfl (lv_at hl 0 rfl) ?_
              obtain ⟨⟨r69, rpwo_70, rpwsq_71, rpwhr_72⟩, hb73, hF⟩ := op_bind hF
              refine xVi (As := []) (rest := []) hC hP hD hS [0, 1, 2, 3, 4, 5, 6, 7, 8, 9, 10] (c_X3_acceptsWork l D cI cC cM ar arn arp arpk arpq arpr arm armh armw arms armu rnum rpsq_51 rppa rppe_64 rpwo rpkind rpwsq rpwhr rmgone rmmet rmstill rmdone rmhour rmworn rmsquare_65 rmunder r69 rpwo_70 rpwsq_71 rpwhr_72 hb73) (cwV 0 hts gX3_accepts_X3_acceptsWork rfl rfl rfl ⟨rfl, pd_X3_acceptsWork⟩ ⟨Nat.le_of_ble_eq_true rfl, Nat.le_of_ble_eq_true rfl⟩) rfl rfl rfl 0 3 rfl rfl rfl rfl hl.1 rfl (Nat.le_of_ble_eq_true rfl) dX3_accepts_46 ⟨Nat.zero_le _, Nat.zero_le _⟩ (fun H locs hP hD hS => ?_)
              have hP : va_P D vwCl [(ar, .inr (3, [.ref arp, .ref arm, .ref arn])), (arn, .inl (cI, 3, .inl rnum)), (arp, .inr (2, [.int rpsq_51, .int rppa, .int rppe_64, .int rpwo_70, .ref arpk, .ref arpq, .ref arpr])), (arpk, .inl (cI, 6, .inl rpkind)), (arpq, .inl (cI, 6, .inl rpwsq_71)), (arpr, .inl (cI, 6, .inl rpwhr_72)), (arm, .inr (1, [.ref arp, .int rmgone, .int rmmet, .int rmstill, .int rmdone, .ref armh, .ref armw, .ref arms, .ref armu])), (armh, .inl (cI, 6, .inl rmhour)), (armw, .inl (cI, 6, .inl rmworn)), (arms, .inl (cI, 5, .inl rmsquare_65)), (armu, .inl (cI, 5, .inl rmunder))] H := hP
              have hD : va_D A [(ar, .inr (3, [.ref arp, .ref arm, .ref arn])), (arn, .inl (cI, 3, .inl rnum)), (arp, .inr (2, [.int rpsq_51, .int rppa, .int rppe_64, .int rpwo_70, .ref arpk, .ref arpq, .ref arpr])), (arpk, .inl (cI, 6, .inl rpkind)), (arpq, .inl (cI, 6, .inl rpwsq_71)), (arpr, .inl (cI, 6, .inl rpwhr_72)), (arm, .inr (1, [.ref arp, .int rmgone, .int rmmet, .int rmstill, .int rmdone, .ref armh, .ref armw, .ref arms, .ref armu])), (armh, .inl (cI, 6, .inl rmhour)), (armw, .inl (cI, 6, .inl rmworn)), (arms, .inl (cI, 5, .inl rmsquare_65)), (armu, .inl (cI, 5, .inl rmunder))] := hD
              refine lv_if_eq (tgt := 56) hx hb dX3_accepts_49 (by decide) (fun c74 => ?_) (fun c74 => ?_)
              · have hF := op_pos c74 hF
                refine lv_iconst (v := (0 : Int32)) hx hb dX3_accepts_56 (by decide) ?_
                cases hF
                rw [hQ]
                exact xrz hC rfl hP hS dX3_accepts_57
              · have hF := op_neg c74 hF
                refine lv_iconst (v := (1 : Int32)) hx hb dX3_accepts_52 (by decide) ?_
                refine lv_goto (tgt := 57) hx hb dX3_accepts_53 (by decide) ?_
                cases hF
                rw [hQ]
                exact xrz hC rfl hP hS dX3_accepts_57
      · have hF := op_pos c54 hF
        refine lv_aload_n hx hb dX3_accepts_19 rfl (lv_at hl 0 rfl) ?_
        obtain ⟨⟨r75, rppa_76, rpkind_77, rmhour_78, rmworn_79⟩, hb80, hF⟩ := op_bind hF
        refine xVi (As := []) (rest := []) hC hP hD hS [0, 1, 2, 3, 4, 5, 6, 7, 8, 9, 10] (c_X3_acceptsParasol l D cI cC cM ar arn arp arpk arpq arpr arm armh armw arms armu rnum rpsq_51 rppa rppe rpwo rpkind rpwsq rpwhr rmgone rmmet rmstill rmdone rmhour rmworn rmsquare rmunder r75 rppa_76 rpkind_77 rmhour_78 rmworn_79 hb80) (cwV 0 hts gX3_accepts_X3_acceptsParasol rfl rfl rfl ⟨rfl, pd_X3_acceptsParasol⟩ ⟨Nat.le_of_ble_eq_true rfl, Nat.le_of_ble_eq_true rfl⟩) rfl rfl rfl 0 3 rfl rfl rfl rfl hl.1 rfl (Nat.le_of_ble_eq_true rfl) dX3_accepts_20 ⟨Nat.zero_le _, Nat.zero_le _⟩ (fun H locs hP hD hS => ?_)
        have hP : va_P D vwCl [(ar, .inr (3, [.ref arp, .ref arm, .ref arn])), (arn, .inl (cI, 3, .inl rnum)), (arp, .inr (2, [.int rpsq_51, .int rppa_76, .int rppe, .int rpwo, .ref arpk, .ref arpq, .ref arpr])), (arpk, .inl (cI, 6, .inl rpkind_77)), (arpq, .inl (cI, 6, .inl rpwsq)), (arpr, .inl (cI, 6, .inl rpwhr)), (arm, .inr (1, [.ref arp, .int rmgone, .int rmmet, .int rmstill, .int rmdone, .ref armh, .ref armw, .ref arms, .ref armu])), (armh, .inl (cI, 6, .inl rmhour_78)), (armw, .inl (cI, 6, .inl rmworn_79)), (arms, .inl (cI, 5, .inl rmsquare)), (armu, .inl (cI, 5, .inl rmunder))] H := hP
        have hD : va_D A [(ar, .inr (3, [.ref arp, .ref arm, .ref arn])), (arn, .inl (cI, 3, .inl rnum)), (arp, .inr (2, [.int rpsq_51, .int rppa_76, .int rppe, .int rpwo, .ref arpk, .ref arpq, .ref arpr])), (arpk, .inl (cI, 6, .inl rpkind_77)), (arpq, .inl (cI, 6, .inl rpwsq)), (arpr, .inl (cI, 6, .inl rpwhr)), (arm, .inr (1, [.ref arp, .int rmgone, .int rmmet, .int rmstill, .int rmdone, .ref armh, .ref armw, .ref arms, .ref armu])), (armh, .inl (cI, 6, .inl rmhour_78)), (armw, .inl (cI, 6, .inl rmworn_79)), (arms, .inl (cI, 5, .inl rmsquare)), (armu, .inl (cI, 5, .inl rmunder))] := hD
        refine lv_if_ne (tgt := 52) hx hb dX3_accepts_23 (by decide) (fun c81 => ?_) (fun c81 => ?_)
        · have hF := op_neg c81 hF
          refine lv_iconst (v := (1 : Int32)) hx hb dX3_accepts_52 (by decide) ?_
          refine lv_goto (tgt := 57) hx hb dX3_accepts_53 (by decide) ?_
          cases hF
          rw [hQ]
          exact xrz hC rfl hP hS dX3_accepts_57
        · have hF := op_pos c81 hF
          refine lv_iload_n hx hb dX3_accepts_26 rfl (lv_at hl 1 rfl) ?_
          refine lv_bipush (v := (112 : Int32)) hx hb dX3_accepts_27 (by decide) ?_
          refine lv_icmp_ne (tgt := 39) hx hb dX3_accepts_29 (by decide) (fun c82 => ?_) (fun c82 => ?_)
          · have hF := op_neg c82 hF
            refine lv_iload_n hx hb dX3_accepts_39 rfl (lv_at hl 1 rfl) ?_
            refine lv_bipush (v := (119 : Int32)) hx hb dX3_accepts_40 (by decide) ?_
            refine lv_icmp_ne (tgt := 56) hx hb dX3_accepts_42 (by decide) (fun c83 => ?_) (fun c83 => ?_)
            · have hF := op_neg c83 hF
              refine lv_iconst (v := (0 : Int32)) hx hb dX3_accepts_56 (by decide) ?_
              cases hF
              rw [hQ]
              exact xrz hC rfl hP hS dX3_accepts_57
            · have hF := op_pos c83 hF
              refine lv_aload_n hx hb dX3_accepts_45 rfl (lv_at hl 0 rfl) ?_
              obtain ⟨⟨r84, rpwo_85, rpwsq_86, rpwhr_87⟩, hb88, hF⟩ := op_bind hF
              refine xVi (As := []) (rest := []) hC hP hD hS [0, 1, 2, 3, 4, 5, 6, 7, 8, 9, 10] (c_X3_acceptsWork l D cI cC cM ar arn arp arpk arpq arpr arm armh armw arms armu rnum rpsq_51 rppa_76 rppe rpwo rpkind_77 rpwsq rpwhr rmgone rmmet rmstill rmdone rmhour_78 rmworn_79 rmsquare rmunder r84 rpwo_85 rpwsq_86 rpwhr_87 hb88) (cwV 0 hts gX3_accepts_X3_acceptsWork rfl rfl rfl ⟨rfl, pd_X3_acceptsWork⟩ ⟨Nat.le_of_ble_eq_true rfl, Nat.le_of_ble_eq_true rfl⟩) rfl rfl rfl 0 3 rfl rfl rfl rfl hl.1 rfl (Nat.le_of_ble_eq_true rfl) dX3_accepts_46 ⟨Nat.zero_le _, Nat.zero_le _⟩ (fun H locs hP hD hS => ?_)
              have hP : va_P D vwCl [(ar, .inr (3, [.ref arp, .ref arm, .ref arn])), (arn, .inl (cI, 3, .inl rnum)), (arp, .inr (2, [.int rpsq_51, .int rppa_76, .int rppe, .int rpwo_85, .ref arpk, .ref arpq, .ref arpr])), (arpk, .inl (cI, 6, .inl rpkind_77)), (arpq, .inl (cI, 6, .inl rpwsq_86)), (arpr, .inl (cI, 6, .inl rpwhr_87)), (arm, .inr (1, [.ref arp, .int rmgone, .int rmmet, .int rmstill, .int rmdone, .ref armh, .ref armw, .ref arms, .ref armu])), (armh, .inl (cI, 6, .inl rmhour_78)), (armw, .inl (cI, 6, .inl rmworn_79)), (arms, .inl (cI, 5, .inl rmsquare)), (armu, .inl (cI, 5, .inl rmunder))] H := hP
              have hD : va_D A [(ar, .inr (3, [.ref arp, .ref arm, .ref arn])), (arn, .inl (cI, 3, .inl rnum)), (arp, .inr (2, [.int rpsq_51, .int rppa_76, .int rppe, .int rpwo_85, .ref arpk, .ref arpq, .ref arpr])), (arpk, .inl (cI, 6, .inl rpkind_77)), (arpq, .inl (cI, 6, .inl rpwsq_86)), (arpr, .inl (cI, 6, .inl rpwhr_87)), (arm, .inr (1, [.ref arp, .int rmgone, .int rmmet, .int rmstill, .int rmdone, .ref armh, .ref armw, .ref arms, .ref armu])), (armh, .inl (cI, 6, .inl rmhour_78)), (armw, .inl (cI, 6, .inl rmworn_79)), (arms, .inl (cI, 5, .inl rmsquare)), (armu, .inl (cI, 5, .inl rmunder))] := hD
              refine lv_if_eq (tgt := 56) hx hb dX3_accepts_49 (by decide) (fun c89 => ?_) (fun c89 => ?_)
              · have hF := op_pos c89 hF
                refine lv_iconst (v := (0 : Int32)) hx hb dX3_accepts_56 (by decide) ?_
                cases hF
                rw [hQ]
                exact xrz hC rfl hP hS dX3_accepts_57
              · have hF := op_neg c89 hF
                refine lv_iconst (v := (1 : Int32)) hx hb dX3_accepts_52 (by decide) ?_
                refine lv_goto (tgt := 57) hx hb dX3_accepts_53 (by decide) ?_
                cases hF
                rw [hQ]
                exact xrz hC rfl hP hS dX3_accepts_57
          · have hF := op_pos c82 hF
            refine lv_aload_n hx hb dX3_accepts_32 rfl (lv_at hl 0 rfl) ?_
            obtain ⟨⟨r90, rppe_91, rmsquare_92⟩, hb93, hF⟩ := op_bind hF
            refine xVi (As := []) (rest := []) hC hP hD hS [0, 1, 2, 3, 4, 5, 6, 7, 8, 9, 10] (c_X3_acceptsPerson l D cI cC cM ar arn arp arpk arpq arpr arm armh armw arms armu rnum rpsq_51 rppa_76 rppe rpwo rpkind_77 rpwsq rpwhr rmgone rmmet rmstill rmdone rmhour_78 rmworn_79 rmsquare rmunder r90 rppe_91 rmsquare_92 hb93) (cwV 0 hts gX3_accepts_X3_acceptsPerson rfl rfl rfl ⟨rfl, pd_X3_acceptsPerson⟩ ⟨Nat.le_of_ble_eq_true rfl, Nat.le_of_ble_eq_true rfl⟩) rfl rfl rfl 0 3 rfl rfl rfl rfl hl.1 rfl (Nat.le_of_ble_eq_true rfl) dX3_accepts_33 ⟨Nat.zero_le _, Nat.zero_le _⟩ (fun H locs hP hD hS => ?_)
            have hP : va_P D vwCl [(ar, .inr (3, [.ref arp, .ref arm, .ref arn])), (arn, .inl (cI, 3, .inl rnum)), (arp, .inr (2, [.int rpsq_51, .int rppa_76, .int rppe_91, .int rpwo, .ref arpk, .ref arpq, .ref arpr])), (arpk, .inl (cI, 6, .inl rpkind_77)), (arpq, .inl (cI, 6, .inl rpwsq)), (arpr, .inl (cI, 6, .inl rpwhr)), (arm, .inr (1, [.ref arp, .int rmgone, .int rmmet, .int rmstill, .int rmdone, .ref armh, .ref armw, .ref arms, .ref armu])), (armh, .inl (cI, 6, .inl rmhour_78)), (armw, .inl (cI, 6, .inl rmworn_79)), (arms, .inl (cI, 5, .inl rmsquare_92)), (armu, .inl (cI, 5, .inl rmunder))] H := hP
            have hD : va_D A [(ar, .inr (3, [.ref arp, .ref arm, .ref arn])), (arn, .inl (cI, 3, .inl rnum)), (arp, .inr (2, [.int rpsq_51, .int rppa_76, .int rppe_91, .int rpwo, .ref arpk, .ref arpq, .ref arpr])), (arpk, .inl (cI, 6, .inl rpkind_77)), (arpq, .inl (cI, 6, .inl rpwsq)), (arpr, .inl (cI, 6, .inl rpwhr)), (arm, .inr (1, [.ref arp, .int rmgone, .int rmmet, .int rmstill, .int rmdone, .ref armh, .ref armw, .ref arms, .ref armu])), (armh, .inl (cI, 6, .inl rmhour_78)), (armw, .inl (cI, 6, .inl rmworn_79)), (arms, .inl (cI, 5, .inl rmsquare_92)), (armu, .inl (cI, 5, .inl rmunder))] := hD
            refine lv_if_ne (tgt := 52) hx hb dX3_accepts_36 (by decide) (fun c94 => ?_) (fun c94 => ?_)
            · have hF := op_neg c94 hF
              refine lv_iconst (v := (1 : Int32)) hx hb dX3_accepts_52 (by decide) ?_
              refine lv_goto (tgt := 57) hx hb dX3_accepts_53 (by decide) ?_
              cases hF
              rw [hQ]
              exact xrz hC rfl hP hS dX3_accepts_57
            · have hF := op_pos c94 hF
              refine lv_iload_n hx hb dX3_accepts_39 rfl (lv_at hl 1 rfl) ?_
              refine lv_bipush (v := (119 : Int32)) hx hb dX3_accepts_40 (by decide) ?_
              refine lv_icmp_ne (tgt := 56) hx hb dX3_accepts_42 (by decide) (fun c95 => ?_) (fun c95 => ?_)
              · have hF := op_neg c95 hF
                refine lv_iconst (v := (0 : Int32)) hx hb dX3_accepts_56 (by decide) ?_
                cases hF
                rw [hQ]
                exact xrz hC rfl hP hS dX3_accepts_57
              · have hF := op_pos c95 hF
                refine lv_aload_n hx hb dX3_accepts_45 rfl (lv_at hl 0 rfl) ?_
                obtain ⟨⟨r96, rpwo_97, rpwsq_98, rpwhr_99⟩, hb100, hF⟩ := op_bind hF
                refine xVi (As := []) (rest := []) hC hP hD hS [0, 1, 2, 3, 4, 5, 6, 7, 8, 9, 10] (c_X3_acceptsWork l D cI cC cM ar arn arp arpk arpq arpr arm armh armw arms armu rnum rpsq_51 rppa_76 rppe_91 rpwo rpkind_77 rpwsq rpwhr rmgone rmmet rmstill rmdone rmhour_78 rmworn_79 rmsquare_92 rmunder r96 rpwo_97 rpwsq_98 rpwhr_99 hb100) (cwV 0 hts gX3_accepts_X3_acceptsWork rfl rfl rfl ⟨rfl, pd_X3_acceptsWork⟩ ⟨Nat.le_of_ble_eq_true rfl, Nat.le_of_ble_eq_true rfl⟩) rfl rfl rfl 0 3 rfl rfl rfl rfl hl.1 rfl (Nat.le_of_ble_eq_true rfl) dX3_accepts_46 ⟨Nat.zero_le _, Nat.zero_le _⟩ (fun H locs hP hD hS => ?_)
                have hP : va_P D vwCl [(ar, .inr (3, [.ref arp, .ref arm, .ref arn])), (arn, .inl (cI, 3, .inl rnum)), (arp, .inr (2, [.int rpsq_51, .int rppa_76, .int rppe_91, .int rpwo_97, .ref arpk, .ref arpq, .ref arpr])), (arpk, .inl (cI, 6, .inl rpkind_77)), (arpq, .inl (cI, 6, .inl rpwsq_98)), (arpr, .inl (cI, 6, .inl rpwhr_99)), (arm, .inr (1, [.ref arp, .int rmgone, .int rmmet, .int rmstill, .int rmdone, .ref armh, .ref armw, .ref arms, .ref armu])), (armh, .inl (cI, 6, .inl rmhour_78)), (armw, .inl (cI, 6, .inl rmworn_79)), (arms, .inl (cI, 5, .inl rmsquare_92)), (armu, .inl (cI, 5, .inl rmunder))] H := hP
                have hD : va_D A [(ar, .inr (3, [.ref arp, .ref arm, .ref arn])), (arn, .inl (cI, 3, .inl rnum)), (arp, .inr (2, [.int rpsq_51, .int rppa_76, .int rppe_91, .int rpwo_97, .ref arpk, .ref arpq, .ref arpr])), (arpk, .inl (cI, 6, .inl rpkind_77)), (arpq, .inl (cI, 6, .inl rpwsq_98)), (arpr, .inl (cI, 6, .inl rpwhr_99)), (arm, .inr (1, [.ref arp, .int rmgone, .int rmmet, .int rmstill, .int rmdone, .ref armh, .ref armw, .ref arms, .ref armu])), (armh, .inl (cI, 6, .inl rmhour_78)), (armw, .inl (cI, 6, .inl rmworn_79)), (arms, .inl (cI, 5, .inl rmsquare_92)), (armu, .inl (cI, 5, .inl rmunder))] := hD
                refine lv_if_eq (tgt := 56) hx hb dX3_accepts_49 (by decide) (fun c101 => ?_) (fun c101 => ?_)
                · have hF := op_pos c101 hF
                  refine lv_iconst (v := (0 : Int32)) hx hb dX3_accepts_56 (by decide) ?_
                  cases hF
                  rw [hQ]
                  exact xrz hC rfl hP hS dX3_accepts_57
                · have hF := op_neg c101 hF
                  refine lv_iconst (v := (1 : Int32)) hx hb dX3_accepts_52 (by decide) ?_
                  refine lv_goto (tgt := 57) hx hb dX3_accepts_53 (by decide) ?_
                  cases hF
                  rw [hQ]
                  exact xrz hC rfl hP hS dX3_accepts_57

def f_X3_behindItem_L20 (r3 : Int32) (ylen : Int32) (ylet : (Nat → Int32)) (rpsq : Int32) (rppa : Int32) (rppe : Int32) (rpwo : Int32) (rpkind : (Nat → Int32)) (rpwsq : (Nat → Int32)) (rpwhr : (Nat → Int32)) (rmhour : (Nat → Int32)) (rmworn : (Nat → Int32)) (rmsquare : (Nat → Int32)) (k20 : Int32 → Int32 → (Nat → Int32) → Option (Int32 × (Nat → Int32) × Int32 × Int32 × Int32 × Int32 × (Nat → Int32) × (Nat → Int32) × (Nat → Int32) × (Nat → Int32) × (Nat → Int32) × (Nat → Int32))) : Nat → Int32 → Int32 → (Nat → Int32) → Option (Int32 × (Nat → Int32) × Int32 × Int32 × Int32 × Int32 × (Nat → Int32) × (Nat → Int32) × (Nat → Int32) × (Nat → Int32) × (Nat → Int32) × (Nat → Int32))
  | 0, _, _, _ => none
  | nf20 + 1, v5, v6, rnum_7 => (if r3 ≤ v6 then (k20 v5 v6 rnum_7) else (if v6 = (r3 - (1 : Int32)) then (Option.bind (f_X3_behindNumber rnum_7 ylen ylet v5 v6 (59 : Int32)) fun (r14, rnum_15) => (if r14 = (-4 : Int32) then (some ((-4 : Int32), rnum_15, rpsq, rppa, rppe, rpwo, rpkind, rpwsq, rpwhr, rmhour, rmworn, rmsquare)) else (f_X3_behindItem_L20 r3 ylen ylet rpsq rppa rppe rpwo rpkind rpwsq rpwhr rmhour rmworn rmsquare k20 nf20 r14 (v6 + (1 : Int32)) rnum_15))) else (Option.bind (f_X3_behindNumber rnum_7 ylen ylet v5 v6 (44 : Int32)) fun (r10, rnum_11) => (if r10 = (-4 : Int32) then (some ((-4 : Int32), rnum_11, rpsq, rppa, rppe, rpwo, rpkind, rpwsq, rpwhr, rmhour, rmworn, rmsquare)) else (f_X3_behindItem_L20 r3 ylen ylet rpsq rppa rppe rpwo rpkind rpwsq rpwhr rmhour rmworn rmsquare k20 nf20 r10 (v6 + (1 : Int32)) rnum_11)))))
theorem f_X3_behindItem_L20_0 (r3 : Int32) (ylen : Int32) (ylet : (Nat → Int32)) (rpsq : Int32) (rppa : Int32) (rppe : Int32) (rpwo : Int32) (rpkind : (Nat → Int32)) (rpwsq : (Nat → Int32)) (rpwhr : (Nat → Int32)) (rmhour : (Nat → Int32)) (rmworn : (Nat → Int32)) (rmsquare : (Nat → Int32)) (k20 : Int32 → Int32 → (Nat → Int32) → Option (Int32 × (Nat → Int32) × Int32 × Int32 × Int32 × Int32 × (Nat → Int32) × (Nat → Int32) × (Nat → Int32) × (Nat → Int32) × (Nat → Int32) × (Nat → Int32))) (v5 : Int32) (v6 : Int32) (rnum_7 : (Nat → Int32)) : f_X3_behindItem_L20 r3 ylen ylet rpsq rppa rppe rpwo rpkind rpwsq rpwhr rmhour rmworn rmsquare k20 0 v5 v6 rnum_7 = none := rfl
theorem f_X3_behindItem_L20_s (r3 : Int32) (ylen : Int32) (ylet : (Nat → Int32)) (rpsq : Int32) (rppa : Int32) (rppe : Int32) (rpwo : Int32) (rpkind : (Nat → Int32)) (rpwsq : (Nat → Int32)) (rpwhr : (Nat → Int32)) (rmhour : (Nat → Int32)) (rmworn : (Nat → Int32)) (rmsquare : (Nat → Int32)) (k20 : Int32 → Int32 → (Nat → Int32) → Option (Int32 × (Nat → Int32) × Int32 × Int32 × Int32 × Int32 × (Nat → Int32) × (Nat → Int32) × (Nat → Int32) × (Nat → Int32) × (Nat → Int32) × (Nat → Int32))) (nf20 : Nat) (v5 : Int32) (v6 : Int32) (rnum_7 : (Nat → Int32)) : f_X3_behindItem_L20 r3 ylen ylet rpsq rppa rppe rpwo rpkind rpwsq rpwhr rmhour rmworn rmsquare k20 (nf20 + 1) v5 v6 rnum_7 = (if r3 ≤ v6 then (k20 v5 v6 rnum_7) else (if v6 = (r3 - (1 : Int32)) then (Option.bind (f_X3_behindNumber rnum_7 ylen ylet v5 v6 (59 : Int32)) fun (r14, rnum_15) => (if r14 = (-4 : Int32) then (some ((-4 : Int32), rnum_15, rpsq, rppa, rppe, rpwo, rpkind, rpwsq, rpwhr, rmhour, rmworn, rmsquare)) else (f_X3_behindItem_L20 r3 ylen ylet rpsq rppa rppe rpwo rpkind rpwsq rpwhr rmhour rmworn rmsquare k20 nf20 r14 (v6 + (1 : Int32)) rnum_15))) else (Option.bind (f_X3_behindNumber rnum_7 ylen ylet v5 v6 (44 : Int32)) fun (r10, rnum_11) => (if r10 = (-4 : Int32) then (some ((-4 : Int32), rnum_11, rpsq, rppa, rppe, rpwo, rpkind, rpwsq, rpwhr, rmhour, rmworn, rmsquare)) else (f_X3_behindItem_L20 r3 ylen ylet rpsq rppa rppe rpwo rpkind rpwsq rpwhr rmhour rmworn rmsquare k20 nf20 r10 (v6 + (1 : Int32)) rnum_11))))) := rfl

def f_X3_behindItem (rnum : (Nat → Int32)) (rpsq : Int32) (rppa : Int32) (rppe : Int32) (rpwo : Int32) (rpkind : (Nat → Int32)) (rpwsq : (Nat → Int32)) (rpwhr : (Nat → Int32)) (rmhour : (Nat → Int32)) (rmworn : (Nat → Int32)) (rmsquare : (Nat → Int32)) (ylen : Int32) (ylet : (Nat → Int32)) (i : Int32) : Option (Int32 × (Nat → Int32) × Int32 × Int32 × Int32 × Int32 × (Nat → Int32) × (Nat → Int32) × (Nat → Int32) × (Nat → Int32) × (Nat → Int32) × (Nat → Int32)) := (Option.bind (f_X6_letterAt ylen ylet i) fun r1 => (Option.bind (f_X3_numbersOf r1) fun r3 => (f_X3_behindItem_L20 r3 ylen ylet rpsq rppa rppe rpwo rpkind rpwsq rpwhr rmhour rmworn rmsquare (fun (v5 : Int32) (v6 : Int32) (rnum_7 : (Nat → Int32)) => (Option.bind (f_X3_accepts rnum_7 rpsq rppa rppe rpwo rpkind rpwsq rpwhr rmhour rmworn rmsquare r1) fun (r18, rpsq_19, rppa_20, rppe_21, rpwo_22, rpkind_23, rpwsq_24, rpwhr_25, rmhour_26, rmworn_27, rmsquare_28) => (if r18 = 0 then (some ((-4 : Int32), rnum_7, rpsq_19, rppa_20, rppe_21, rpwo_22, rpkind_23, rpwsq_24, rpwhr_25, rmhour_26, rmworn_27, rmsquare_28)) else (some (v5, rnum_7, rpsq_19, rppa_20, rppe_21, rpwo_22, rpkind_23, rpwsq_24, rpwhr_25, rmhour_26, rmworn_27, rmsquare_28))))) 20000 (i + (1 : Int32)) (0 : Int32) rnum)))

def rm_X3_behindItem : Room := { frames := 3, cells := 0, slots := 0, locals := 66 }

theorem pd_X3_behindItem : yX3_behindItem.cls ≠ "java/lang/invoke/MethodHandle" ∧ yX3_behindItem.cls ≠ "java/lang/invoke/VarHandle" ∧ (parseMethodDescriptor yX3_behindItem.desc).map (fun d => d.parameters.length) = some 2 := by decide +kernel

set_option maxHeartbeats 4000000 in
set_option maxRecDepth 100000 in
theorem c_X3_behindItem (l : Launch) (D : va_G) (cI cC cM : ClassId) (ar arn arp arpk arpq arpr arm armh armw arms armu ay ayl : Nat) (rnum : (Nat → Int32)) (rpsq : Int32) (rppa : Int32) (rppe : Int32) (rpwo : Int32) (rpkind : (Nat → Int32)) (rpwsq : (Nat → Int32)) (rpwhr : (Nat → Int32)) (rmgone : Int32) (rmmet : Int32) (rmstill : Int32) (rmdone : Int32) (rmhour : (Nat → Int32)) (rmworn : (Nat → Int32)) (rmsquare : (Nat → Int32)) (rmunder : (Nat → Int32)) (ylen : Int32) (ylet : (Nat → Int32)) (i : Int32) (rr : Int32) (rnum' : (Nat → Int32)) (rpsq' : Int32) (rppa' : Int32) (rppe' : Int32) (rpwo' : Int32) (rpkind' : (Nat → Int32)) (rpwsq' : (Nat → Int32)) (rpwhr' : (Nat → Int32)) (rmhour' : (Nat → Int32)) (rmworn' : (Nat → Int32)) (rmsquare' : (Nat → Int32)) (hF : f_X3_behindItem rnum rpsq rppa rppe rpwo rpkind rpwsq rpwhr rmhour rmworn rmsquare ylen ylet i = some (rr, rnum', rpsq', rppa', rppe', rpwo', rpkind', rpwsq', rpwhr', rmhour', rmworn', rmsquare')) : CI l D cI cC cM yX3_behindItem wsX3_behindItem rm_X3_behindItem [.ref ar, .ref ay, .int i] [(ar, .inr (3, [.ref arp, .ref arm, .ref arn])), (arn, .inl (cI, 3, .inl rnum)), (arp, .inr (2, [.int rpsq, .int rppa, .int rppe, .int rpwo, .ref arpk, .ref arpq, .ref arpr])), (arpk, .inl (cI, 6, .inl rpkind)), (arpq, .inl (cI, 6, .inl rpwsq)), (arpr, .inl (cI, 6, .inl rpwhr)), (arm, .inr (1, [.ref arp, .int rmgone, .int rmmet, .int rmstill, .int rmdone, .ref armh, .ref armw, .ref arms, .ref armu])), (armh, .inl (cI, 6, .inl rmhour)), (armw, .inl (cI, 6, .inl rmworn)), (arms, .inl (cI, 5, .inl rmsquare)), (armu, .inl (cI, 5, .inl rmunder)), (ay, .inr (6, [.ref ayl, .int ylen])), (ayl, .inl (cC, 200, .inl ylet))] [(ar, .inr (3, [.ref arp, .ref arm, .ref arn])), (arn, .inl (cI, 3, .inl rnum')), (arp, .inr (2, [.int rpsq', .int rppa', .int rppe', .int rpwo', .ref arpk, .ref arpq, .ref arpr])), (arpk, .inl (cI, 6, .inl rpkind')), (arpq, .inl (cI, 6, .inl rpwsq')), (arpr, .inl (cI, 6, .inl rpwhr')), (arm, .inr (1, [.ref arp, .int rmgone, .int rmmet, .int rmstill, .int rmdone, .ref armh, .ref armw, .ref arms, .ref armu])), (armh, .inl (cI, 6, .inl rmhour')), (armw, .inl (cI, 6, .inl rmworn')), (arms, .inl (cI, 5, .inl rmsquare')), (armu, .inl (cI, 5, .inl rmunder)), (ay, .inr (6, [.ref ayl, .int ylen])), (ayl, .inl (cC, 200, .inl ylet))] rr := by
  refine CI.of (cc := cX3_behindItem) (nL := 7) (ret := (some .int)) (by decide) rfl (Nat.le_of_ble_eq_true rfl) ?_
  intro p e s m args below meth c A hC hP hD hS ls hl
  obtain ⟨hx, hb, hml, hown, hts, hr, hlk, hG, hA⟩ := id hC
  have hown : s.vm.findClass RX3 = some m.cls := hown
  have hK := hG.1
  have hl : lv_has ls 7 [(0, .ref ar), (1, .ref ay), (2, .int i)] := hl
  obtain ⟨Q, hQ⟩ : ∃ Q, Q = MQ below (QI D [(ar, .inr (3, [.ref arp, .ref arm, .ref arn])), (arn, .inl (cI, 3, .inl rnum')), (arp, .inr (2, [.int rpsq', .int rppa', .int rppe', .int rpwo', .ref arpk, .ref arpq, .ref arpr])), (arpk, .inl (cI, 6, .inl rpkind')), (arpq, .inl (cI, 6, .inl rpwsq')), (arpr, .inl (cI, 6, .inl rpwhr')), (arm, .inr (1, [.ref arp, .int rmgone, .int rmmet, .int rmstill, .int rmdone, .ref armh, .ref armw, .ref arms, .ref armu])), (armh, .inl (cI, 6, .inl rmhour')), (armw, .inl (cI, 6, .inl rmworn')), (arms, .inl (cI, 5, .inl rmsquare')), (armu, .inl (cI, 5, .inl rmunder)), (ay, .inr (6, [.ref ayl, .int ylen])), (ayl, .inl (cC, 200, .inl ylet))] rr A) args s 0 0 A := ⟨_, rfl⟩
  rw [← hQ]
  unfold f_X3_behindItem at hF
  refine lv_aload_n hx hb dX3_behindItem_0 rfl (lv_at hl 1 rfl) ?_
  refine lv_iload_n hx hb dX3_behindItem_1 rfl (lv_at hl 2 rfl) ?_
  obtain ⟨r1, hb2, hF⟩ := op_bind hF
  refine xVr (As := [.int i]) (rest := []) hC hP hD hS [11, 12] (c_X6_letterAt l D cI cC cM ay ayl ylen ylet i r1 hb2) (cwV 1 hts gX3_behindItem_X6_letterAt rfl rfl rfl ⟨rfl, pd_X6_letterAt⟩ ⟨Nat.le_of_ble_eq_true rfl, Nat.le_of_ble_eq_true rfl⟩) rfl rfl 11 6 rfl rfl rfl rfl hl.1 rfl (Nat.le_of_ble_eq_true rfl) dX3_behindItem_2 ⟨Nat.zero_le _, Nat.zero_le _⟩ (fun H locs hP hS => ?_)
  refine lv_istore_n (lv' := [(3, .int r1), (0, .ref ar), (1, .ref ay), (2, .int i)]) hx hb dX3_behindItem_5 rfl hl (by decide) rfl (fun ls hl => ?_)
  refine lv_iload_n hx hb dX3_behindItem_6 rfl (lv_at hl 0 rfl) ?_
  obtain ⟨r3, hb4, hF⟩ := op_bind hF
  refine xSr (As := [.int r1]) (rest := []) hC hP hD hS [] (c_X3_numbersOf l D cI cC cM r1 r3 hb4) (va_cwS 1 hts gX3_behindItem_X3_numbersOf rfl rfl rfl pd_X3_numbersOf ⟨Nat.le_of_ble_eq_true rfl, Nat.le_of_ble_eq_true rfl⟩) rfl rfl rfl hl.1 rfl (Nat.le_of_ble_eq_true rfl) dX3_behindItem_7 ⟨Nat.zero_le _, Nat.zero_le _⟩ (fun H locs hP hS => ?_)
  refine lv_istore (lv' := [(4, .int r3), (3, .int r1), (0, .ref ar), (1, .ref ay), (2, .int i)]) hx hb dX3_behindItem_10 hl (by decide) rfl (fun ls hl => ?_)
  refine lv_iload_n hx hb dX3_behindItem_12 rfl (lv_at hl 4 rfl) ?_
  refine lv_iconst (v := (1 : Int32)) hx hb dX3_behindItem_13 (by decide) ?_
  refine lv_iadd hx hb dX3_behindItem_14 ?_
  refine lv_istore (lv' := [(5, .int (i + (1 : Int32))), (4, .int r3), (3, .int r1), (0, .ref ar), (1, .ref ay), (2, .int i)]) hx hb dX3_behindItem_15 hl (by decide) rfl (fun ls hl => ?_)
  refine lv_iconst (v := (0 : Int32)) hx hb dX3_behindItem_17 (by decide) ?_
  refine lv_istore (lv' := [(6, .int (0 : Int32)), (5, .int (i + (1 : Int32))), (4, .int r3), (3, .int r1), (0, .ref ar), (1, .ref ay), (2, .int i)]) hx hb dX3_behindItem_18 hl (by decide) rfl (fun ls hl => ?_)
  have hL20 : ∀ (k20 : Int32 → Int32 → (Nat → Int32) → Option (Int32 × (Nat → Int32) × Int32 × Int32 × Int32 × Int32 × (Nat → Int32) × (Nat → Int32) × (Nat → Int32) × (Nat → Int32) × (Nat → Int32) × (Nat → Int32))), (∀ (v5 : Int32) (v6 : Int32) (rnum_7 : (Nat → Int32)) (H : Heap) (locs : List Loc), va_P D vwCl [(ar, .inr (3, [.ref arp, .ref arm, .ref arn])), (arn, .inl (cI, 3, .inl rnum_7)), (arp, .inr (2, [.int rpsq, .int rppa, .int rppe, .int rpwo, .ref arpk, .ref arpq, .ref arpr])), (arpk, .inl (cI, 6, .inl rpkind)), (arpq, .inl (cI, 6, .inl rpwsq)), (arpr, .inl (cI, 6, .inl rpwhr)), (arm, .inr (1, [.ref arp, .int rmgone, .int rmmet, .int rmstill, .int rmdone, .ref armh, .ref armw, .ref arms, .ref armu])), (armh, .inl (cI, 6, .inl rmhour)), (armw, .inl (cI, 6, .inl rmworn)), (arms, .inl (cI, 5, .inl rmsquare)), (armu, .inl (cI, 5, .inl rmunder)), (ay, .inr (6, [.ref ayl, .int ylen])), (ayl, .inl (cC, 200, .inl ylet))] H → va_D A [(ar, .inr (3, [.ref arp, .ref arm, .ref arn])), (arn, .inl (cI, 3, .inl rnum_7)), (arp, .inr (2, [.int rpsq, .int rppa, .int rppe, .int rpwo, .ref arpk, .ref arpq, .ref arpr])), (arpk, .inl (cI, 6, .inl rpkind)), (arpq, .inl (cI, 6, .inl rpwsq)), (arpr, .inl (cI, 6, .inl rpwhr)), (arm, .inr (1, [.ref arp, .int rmgone, .int rmmet, .int rmstill, .int rmdone, .ref armh, .ref armw, .ref arms, .ref armu])), (armh, .inl (cI, 6, .inl rmhour)), (armw, .inl (cI, 6, .inl rmworn)), (arms, .inl (cI, 5, .inl rmsquare)), (armu, .inl (cI, 5, .inl rmunder)), (ay, .inr (6, [.ref ayl, .int ylen])), (ayl, .inl (cC, 200, .inl ylet))] → va_S A s.heap H locs → ∀ ls : Array Slot, lv_has ls 7 [(5, .int v5), (3, .int r1), (0, .ref ar)] → k20 v5 v6 rnum_7 = some (rr, rnum', rpsq', rppa', rppe', rpwo', rpkind', rpwsq', rpwhr', rmhour', rmworn', rmsquare') → W p l e rm_X3_behindItem s m args below meth c H locs 0 0 Q (F0 m 70 ls [])) → ∀ (nf20 : Nat) (v5 : Int32) (v6 : Int32) (rnum_7 : (Nat → Int32)) (H : Heap) (locs : List Loc), va_P D vwCl [(ar, .inr (3, [.ref arp, .ref arm, .ref arn])), (arn, .inl (cI, 3, .inl rnum_7)), (arp, .inr (2, [.int rpsq, .int rppa, .int rppe, .int rpwo, .ref arpk, .ref arpq, .ref arpr])), (arpk, .inl (cI, 6, .inl rpkind)), (arpq, .inl (cI, 6, .inl rpwsq)), (arpr, .inl (cI, 6, .inl rpwhr)), (arm, .inr (1, [.ref arp, .int rmgone, .int rmmet, .int rmstill, .int rmdone, .ref armh, .ref armw, .ref arms, .ref armu])), (armh, .inl (cI, 6, .inl rmhour)), (armw, .inl (cI, 6, .inl rmworn)), (arms, .inl (cI, 5, .inl rmsquare)), (armu, .inl (cI, 5, .inl rmunder)), (ay, .inr (6, [.ref ayl, .int ylen])), (ayl, .inl (cC, 200, .inl ylet))] H → va_D A [(ar, .inr (3, [.ref arp, .ref arm, .ref arn])), (arn, .inl (cI, 3, .inl rnum_7)), (arp, .inr (2, [.int rpsq, .int rppa, .int rppe, .int rpwo, .ref arpk, .ref arpq, .ref arpr])), (arpk, .inl (cI, 6, .inl rpkind)), (arpq, .inl (cI, 6, .inl rpwsq)), (arpr, .inl (cI, 6, .inl rpwhr)), (arm, .inr (1, [.ref arp, .int rmgone, .int rmmet, .int rmstill, .int rmdone, .ref armh, .ref armw, .ref arms, .ref armu])), (armh, .inl (cI, 6, .inl rmhour)), (armw, .inl (cI, 6, .inl rmworn)), (arms, .inl (cI, 5, .inl rmsquare)), (armu, .inl (cI, 5, .inl rmunder)), (ay, .inr (6, [.ref ayl, .int ylen])), (ayl, .inl (cC, 200, .inl ylet))] → va_S A s.heap H locs → ∀ ls : Array Slot, lv_has ls 7 [(6, .int v6), (5, .int v5), (4, .int r3), (3, .int r1), (0, .ref ar), (1, .ref ay)] → f_X3_behindItem_L20 r3 ylen ylet rpsq rppa rppe rpwo rpkind rpwsq rpwhr rmhour rmworn rmsquare k20 nf20 v5 v6 rnum_7 = some (rr, rnum', rpsq', rppa', rppe', rpwo', rpkind', rpwsq', rpwhr', rmhour', rmworn', rmsquare') → W p l e rm_X3_behindItem s m args below meth c H locs 0 0 Q (F0 m 20 ls []) := by
    intro k20 hk20 nf20
    induction nf20 with
    | zero =>
      intro v5 v6 rnum_7 H locs hP hD hS ls hl hF
      rw [f_X3_behindItem_L20_0] at hF
      cases hF
    | succ nf20 ih20 =>
      intro v5 v6 rnum_7 H locs hP hD hS ls hl hF
      rw [f_X3_behindItem_L20_s] at hF
      refine lv_iload hx hb dX3_behindItem_20 (lv_at hl 0 rfl) ?_
      refine lv_iload hx hb dX3_behindItem_22 (lv_at hl 2 rfl) ?_
      refine lv_icmp_ge (tgt := 70) hx hb dX3_behindItem_24 (by decide) (fun c8 => ?_) (fun c8 => ?_)
      · have hF := op_pos c8 hF
        exact hk20 v5 v6 rnum_7 _ _ hP hD hS _ (lv_sub hl [1, 3, 4] rfl) hF
      · have hF := op_neg c8 hF
        refine lv_aload_n hx hb dX3_behindItem_27 rfl (lv_at hl 4 rfl) ?_
        refine lv_aload_n hx hb dX3_behindItem_28 rfl (lv_at hl 5 rfl) ?_
        refine lv_iload hx hb dX3_behindItem_29 (lv_at hl 1 rfl) ?_
        refine lv_iload hx hb dX3_behindItem_31 (lv_at hl 0 rfl) ?_
        refine lv_iload hx hb dX3_behindItem_33 (lv_at hl 0 rfl) ?_
        refine lv_iload hx hb dX3_behindItem_35 (lv_at hl 2 rfl) ?_
        refine lv_iconst (v := (1 : Int32)) hx hb dX3_behindItem_37 (by decide) ?_
        refine lv_isub hx hb dX3_behindItem_38 ?_
        refine lv_icmp_ne (tgt := 47) hx hb dX3_behindItem_39 (by decide) (fun c9 => ?_) (fun c9 => ?_)
        · have hF := op_neg c9 hF
          refine lv_bipush (v := (44 : Int32)) hx hb dX3_behindItem_47 (by decide) ?_
          obtain ⟨⟨r10, rnum_11⟩, hb12, hF⟩ := op_bind hF
          refine xVi (As := [.ref ay, .int v5, .int v6, .int (44 : Int32)]) (rest := []) hC hP hD hS [0, 1, 2, 3, 4, 5, 6, 7, 8, 9, 10, 11, 12] (c_X3_behindNumber l D cI cC cM ar arn arp arpk arpq arpr arm armh armw arms armu ay ayl rnum_7 rpsq rppa rppe rpwo rpkind rpwsq rpwhr rmgone rmmet rmstill rmdone rmhour rmworn rmsquare rmunder ylen ylet v5 v6 (44 : Int32) r10 rnum_11 hb12) (cwV 4 hts gX3_behindItem_X3_behindNumber rfl rfl rfl ⟨rfl, pd_X3_behindNumber⟩ ⟨Nat.le_of_ble_eq_true rfl, Nat.le_of_ble_eq_true rfl⟩) rfl rfl rfl 0 3 rfl rfl rfl rfl hl.1 rfl (Nat.le_of_ble_eq_true rfl) dX3_behindItem_49 ⟨Nat.zero_le _, Nat.zero_le _⟩ (fun H locs hP hD hS => ?_)
          have hP : va_P D vwCl [(ar, .inr (3, [.ref arp, .ref arm, .ref arn])), (arn, .inl (cI, 3, .inl rnum_11)), (arp, .inr (2, [.int rpsq, .int rppa, .int rppe, .int rpwo, .ref arpk, .ref arpq, .ref arpr])), (arpk, .inl (cI, 6, .inl rpkind)), (arpq, .inl (cI, 6, .inl rpwsq)), (arpr, .inl (cI, 6, .inl rpwhr)), (arm, .inr (1, [.ref arp, .int rmgone, .int rmmet, .int rmstill, .int rmdone, .ref armh, .ref armw, .ref arms, .ref armu])), (armh, .inl (cI, 6, .inl rmhour)), (armw, .inl (cI, 6, .inl rmworn)), (arms, .inl (cI, 5, .inl rmsquare)), (armu, .inl (cI, 5, .inl rmunder)), (ay, .inr (6, [.ref ayl, .int ylen])), (ayl, .inl (cC, 200, .inl ylet))] H := hP
          have hD : va_D A [(ar, .inr (3, [.ref arp, .ref arm, .ref arn])), (arn, .inl (cI, 3, .inl rnum_11)), (arp, .inr (2, [.int rpsq, .int rppa, .int rppe, .int rpwo, .ref arpk, .ref arpq, .ref arpr])), (arpk, .inl (cI, 6, .inl rpkind)), (arpq, .inl (cI, 6, .inl rpwsq)), (arpr, .inl (cI, 6, .inl rpwhr)), (arm, .inr (1, [.ref arp, .int rmgone, .int rmmet, .int rmstill, .int rmdone, .ref armh, .ref armw, .ref arms, .ref armu])), (armh, .inl (cI, 6, .inl rmhour)), (armw, .inl (cI, 6, .inl rmworn)), (arms, .inl (cI, 5, .inl rmsquare)), (armu, .inl (cI, 5, .inl rmunder)), (ay, .inr (6, [.ref ayl, .int ylen])), (ayl, .inl (cC, 200, .inl ylet))] := hD
          refine lv_istore (lv' := [(5, .int r10), (6, .int v6), (4, .int r3), (3, .int r1), (0, .ref ar), (1, .ref ay)]) hx hb dX3_behindItem_52 hl (by decide) rfl (fun ls hl => ?_)
          refine lv_iload hx hb dX3_behindItem_54 (lv_at hl 0 rfl) ?_
          refine lv_bipush (v := (-4 : Int32)) hx hb dX3_behindItem_56 (by decide) ?_
          refine lv_icmp_ne (tgt := 64) hx hb dX3_behindItem_58 (by decide) (fun c13 => ?_) (fun c13 => ?_)
          · have hF := op_neg c13 hF
            refine lv_iinc (v := (v6 + (1 : Int32))) (lv' := [(6, .int (v6 + (1 : Int32))), (5, .int r10), (4, .int r3), (3, .int r1), (0, .ref ar), (1, .ref ay)]) hx hb dX3_behindItem_64 hl (k := 1) rfl (by first | rfl | decide) (by decide) rfl (fun ls hl => ?_)
            refine lv_goto (tgt := 20) hx hb dX3_behindItem_67 (by decide) ?_
            exact ih20 r10 (v6 + (1 : Int32)) rnum_11 _ _ hP hD hS _ (lv_sub hl [0, 1, 2, 3, 4, 5] rfl) hF
          · have hF := op_pos c13 hF
            refine lv_bipush (v := (-4 : Int32)) hx hb dX3_behindItem_61 (by decide) ?_
            cases hF
            rw [hQ]
            exact xri hC hP hS dX3_behindItem_63
        · have hF := op_pos c9 hF
          refine lv_bipush (v := (59 : Int32)) hx hb dX3_behindItem_42 (by decide) ?_
          refine lv_goto (tgt := 49) hx hb dX3_behindItem_44 (by decide) ?_
          obtain ⟨⟨r14, rnum_15⟩, hb16, hF⟩ := op_bind hF
          refine xVi (As := [.ref ay, .int v5, .int v6, .int (59 : Int32)]) (rest := []) hC hP hD hS [0, 1, 2, 3, 4, 5, 6, 7, 8, 9, 10, 11, 12] (c_X3_behindNumber l D cI cC cM ar arn arp arpk arpq arpr arm armh armw arms armu ay ayl rnum_7 rpsq rppa rppe rpwo rpkind rpwsq rpwhr rmgone rmmet rmstill rmdone rmhour rmworn rmsquare rmunder ylen ylet v5 v6 (59 : Int32) r14 rnum_15 hb16) (cwV 4 hts gX3_behindItem_X3_behindNumber rfl rfl rfl ⟨rfl, pd_X3_behindNumber⟩ ⟨Nat.le_of_ble_eq_true rfl, Nat.le_of_ble_eq_true rfl⟩) rfl rfl rfl 0 3 rfl rfl rfl rfl hl.1 rfl (Nat.le_of_ble_eq_true rfl) dX3_behindItem_49 ⟨Nat.zero_le _, Nat.zero_le _⟩ (fun H locs hP hD hS => ?_)
          have hP : va_P D vwCl [(ar, .inr (3, [.ref arp, .ref arm, .ref arn])), (arn, .inl (cI, 3, .inl rnum_15)), (arp, .inr (2, [.int rpsq, .int rppa, .int rppe, .int rpwo, .ref arpk, .ref arpq, .ref arpr])), (arpk, .inl (cI, 6, .inl rpkind)), (arpq, .inl (cI, 6, .inl rpwsq)), (arpr, .inl (cI, 6, .inl rpwhr)), (arm, .inr (1, [.ref arp, .int rmgone, .int rmmet, .int rmstill, .int rmdone, .ref armh, .ref armw, .ref arms, .ref armu])), (armh, .inl (cI, 6, .inl rmhour)), (armw, .inl (cI, 6, .inl rmworn)), (arms, .inl (cI, 5, .inl rmsquare)), (armu, .inl (cI, 5, .inl rmunder)), (ay, .inr (6, [.ref ayl, .int ylen])), (ayl, .inl (cC, 200, .inl ylet))] H := hP
          have hD : va_D A [(ar, .inr (3, [.ref arp, .ref arm, .ref arn])), (arn, .inl (cI, 3, .inl rnum_15)), (arp, .inr (2, [.int rpsq, .int rppa, .int rppe, .int rpwo, .ref arpk, .ref arpq, .ref arpr])), (arpk, .inl (cI, 6, .inl rpkind)), (arpq, .inl (cI, 6, .inl rpwsq)), (arpr, .inl (cI, 6, .inl rpwhr)), (arm, .inr (1, [.ref arp, .int rmgone, .int rmmet, .int rmstill, .int rmdone, .ref armh, .ref armw, .ref arms, .ref armu])), (armh, .inl (cI, 6, .inl rmhour)), (armw, .inl (cI, 6, .inl rmworn)), (arms, .inl (cI, 5, .inl rmsquare)), (armu, .inl (cI, 5, .inl rmunder)), (ay, .inr (6, [.ref ayl, .int ylen])), (ayl, .inl (cC, 200, .inl ylet))] := hD
          refine lv_istore (lv' := [(5, .int r14), (6, .int v6), (4, .int r3), (3, .int r1), (0, .ref ar), (1, .ref ay)]) hx hb dX3_behindItem_52 hl (by decide) rfl (fun ls hl => ?_)
          refine lv_iload hx hb dX3_behindItem_54 (lv_at hl 0 rfl) ?_
          refine lv_bipush (v := (-4 : Int32)) hx hb dX3_behindItem_56 (by decide) ?_
          refine lv_icmp_ne (tgt := 64) hx hb dX3_behindItem_58 (by decide) (fun c17 => ?_) (fun c17 => ?_)
          · have hF := op_neg c17 hF
            refine lv_iinc (v := (v6 + (1 : Int32))) (lv' := [(6, .int (v6 + (1 : Int32))), (5, .int r14), (4, .int r3), (3, .int r1), (0, .ref ar), (1, .ref ay)]) hx hb dX3_behindItem_64 hl (k := 1) rfl (by first | rfl | decide) (by decide) rfl (fun ls hl => ?_)
            refine lv_goto (tgt := 20) hx hb dX3_behindItem_67 (by decide) ?_
            exact ih20 r14 (v6 + (1 : Int32)) rnum_15 _ _ hP hD hS _ (lv_sub hl [0, 1, 2, 3, 4, 5] rfl) hF
          · have hF := op_pos c17 hF
            refine lv_bipush (v := (-4 : Int32)) hx hb dX3_behindItem_61 (by decide) ?_
            cases hF
            rw [hQ]
            exact xri hC hP hS dX3_behindItem_63
  refine hL20 _ (fun v5 v6 rnum_7 H locs hP hD hS ls hl hF => ?_) 20000 (i + (1 : Int32)) (0 : Int32) rnum _ _ hP hD hS _ (lv_sub hl [0, 1, 2, 3, 4, 5] rfl) hF
  refine lv_aload_n hx hb dX3_behindItem_70 rfl (lv_at hl 2 rfl) ?_
  refine lv_iload_n hx hb dX3_behindItem_71 rfl (lv_at hl 1 rfl) ?_
  obtain ⟨⟨r18, rpsq_19, rppa_20, rppe_21, rpwo_22, rpkind_23, rpwsq_24, rpwhr_25, rmhour_26, rmworn_27, rmsquare_28⟩, hb29, hF⟩ := op_bind hF
  refine xVi (As := [.int r1]) (rest := []) hC hP hD hS [0, 1, 2, 3, 4, 5, 6, 7, 8, 9, 10] (c_X3_accepts l D cI cC cM ar arn arp arpk arpq arpr arm armh armw arms armu rnum_7 rpsq rppa rppe rpwo rpkind rpwsq rpwhr rmgone rmmet rmstill rmdone rmhour rmworn rmsquare rmunder r1 r18 rpsq_19 rppa_20 rppe_21 rpwo_22 rpkind_23 rpwsq_24 rpwhr_25 rmhour_26 rmworn_27 rmsquare_28 hb29) (cwV 1 hts gX3_behindItem_X3_accepts rfl rfl rfl ⟨rfl, pd_X3_accepts⟩ ⟨Nat.le_of_ble_eq_true rfl, Nat.le_of_ble_eq_true rfl⟩) rfl rfl rfl 0 3 rfl rfl rfl rfl hl.1 rfl (Nat.le_of_ble_eq_true rfl) dX3_behindItem_72 ⟨Nat.zero_le _, Nat.zero_le _⟩ (fun H locs hP hD hS => ?_)
  have hP : va_P D vwCl [(ar, .inr (3, [.ref arp, .ref arm, .ref arn])), (arn, .inl (cI, 3, .inl rnum_7)), (arp, .inr (2, [.int rpsq_19, .int rppa_20, .int rppe_21, .int rpwo_22, .ref arpk, .ref arpq, .ref arpr])), (arpk, .inl (cI, 6, .inl rpkind_23)), (arpq, .inl (cI, 6, .inl rpwsq_24)), (arpr, .inl (cI, 6, .inl rpwhr_25)), (arm, .inr (1, [.ref arp, .int rmgone, .int rmmet, .int rmstill, .int rmdone, .ref armh, .ref armw, .ref arms, .ref armu])), (armh, .inl (cI, 6, .inl rmhour_26)), (armw, .inl (cI, 6, .inl rmworn_27)), (arms, .inl (cI, 5, .inl rmsquare_28)), (armu, .inl (cI, 5, .inl rmunder)), (ay, .inr (6, [.ref ayl, .int ylen])), (ayl, .inl (cC, 200, .inl ylet))] H := hP
  have hD : va_D A [(ar, .inr (3, [.ref arp, .ref arm, .ref arn])), (arn, .inl (cI, 3, .inl rnum_7)), (arp, .inr (2, [.int rpsq_19, .int rppa_20, .int rppe_21, .int rpwo_22, .ref arpk, .ref arpq, .ref arpr])), (arpk, .inl (cI, 6, .inl rpkind_23)), (arpq, .inl (cI, 6, .inl rpwsq_24)), (arpr, .inl (cI, 6, .inl rpwhr_25)), (arm, .inr (1, [.ref arp, .int rmgone, .int rmmet, .int rmstill, .int rmdone, .ref armh, .ref armw, .ref arms, .ref armu])), (armh, .inl (cI, 6, .inl rmhour_26)), (armw, .inl (cI, 6, .inl rmworn_27)), (arms, .inl (cI, 5, .inl rmsquare_28)), (armu, .inl (cI, 5, .inl rmunder)), (ay, .inr (6, [.ref ayl, .int ylen])), (ayl, .inl (cC, 200, .inl ylet))] := hD
  refine lv_if_eq (tgt := 83) hx hb dX3_behindItem_75 (by decide) (fun c30 => ?_) (fun c30 => ?_)
  · have hF := op_pos c30 hF
    refine lv_bipush (v := (-4 : Int32)) hx hb dX3_behindItem_83 (by decide) ?_
    cases hF
    rw [hQ]
    exact xri hC hP hS dX3_behindItem_85
  · have hF := op_neg c30 hF
    refine lv_iload hx hb dX3_behindItem_78 (lv_at hl 0 rfl) ?_
    refine lv_goto (tgt := 85) hx hb dX3_behindItem_80 (by decide) ?_
    cases hF
    rw [hQ]
    exact xri hC hP hS dX3_behindItem_85

def f_X3_placeOfFault_L8 (ylen : Int32) (ylet : (Nat → Int32)) (rmgone_5 : Int32) (rmmet_6 : Int32) (rmstill_7 : Int32) (rmdone_8 : Int32) (rmunder_9 : (Nat → Int32)) (k8 : Int32 → Int32 → (Nat → Int32) → Int32 → Int32 → Int32 → Int32 → (Nat → Int32) → (Nat → Int32) → (Nat → Int32) → (Nat → Int32) → (Nat → Int32) → (Nat → Int32) → Option (Int32 × (Nat → Int32) × Int32 × Int32 × Int32 × Int32 × (Nat → Int32) × (Nat → Int32) × (Nat → Int32) × Int32 × Int32 × Int32 × Int32 × (Nat → Int32) × (Nat → Int32) × (Nat → Int32) × (Nat → Int32))) : Nat → Int32 → Int32 → (Nat → Int32) → Int32 → Int32 → Int32 → Int32 → (Nat → Int32) → (Nat → Int32) → (Nat → Int32) → (Nat → Int32) → (Nat → Int32) → (Nat → Int32) → Option (Int32 × (Nat → Int32) × Int32 × Int32 × Int32 × Int32 × (Nat → Int32) × (Nat → Int32) × (Nat → Int32) × Int32 × Int32 × Int32 × Int32 × (Nat → Int32) × (Nat → Int32) × (Nat → Int32) × (Nat → Int32))
  | 0, _, _, _, _, _, _, _, _, _, _, _, _, _ => none
  | nf8 + 1, v11, v12, rnum_13, rpsq_14, rppa_15, rppe_16, rpwo_17, rpkind_18, rpwsq_19, rpwhr_20, rmhour_21, rmworn_22, rmsquare_23 => (if (200 : Int32) ≤ v12 then (k8 v11 v12 rnum_13 rpsq_14 rppa_15 rppe_16 rpwo_17 rpkind_18 rpwsq_19 rpwhr_20 rmhour_21 rmworn_22 rmsquare_23) else (if ylen ≤ v11 then (k8 v11 v12 rnum_13 rpsq_14 rppa_15 rppe_16 rpwo_17 rpkind_18 rpwsq_19 rpwhr_20 rmhour_21 rmworn_22 rmsquare_23) else (Option.bind (f_X3_behindItem rnum_13 rpsq_14 rppa_15 rppe_16 rpwo_17 rpkind_18 rpwsq_19 rpwhr_20 rmhour_21 rmworn_22 rmsquare_23 ylen ylet v11) fun (r26, rnum_27, rpsq_28, rppa_29, rppe_30, rpwo_31, rpkind_32, rpwsq_33, rpwhr_34, rmhour_35, rmworn_36, rmsquare_37) => (if r26 = (-4 : Int32) then (some (v11, rnum_27, rpsq_28, rppa_29, rppe_30, rpwo_31, rpkind_32, rpwsq_33, rpwhr_34, rmgone_5, rmmet_6, rmstill_7, rmdone_8, rmhour_35, rmworn_36, rmsquare_37, rmunder_9)) else (f_X3_placeOfFault_L8 ylen ylet rmgone_5 rmmet_6 rmstill_7 rmdone_8 rmunder_9 k8 nf8 r26 (v12 + (1 : Int32)) rnum_27 rpsq_28 rppa_29 rppe_30 rpwo_31 rpkind_32 rpwsq_33 rpwhr_34 rmhour_35 rmworn_36 rmsquare_37)))))
theorem f_X3_placeOfFault_L8_0 (ylen : Int32) (ylet : (Nat → Int32)) (rmgone_5 : Int32) (rmmet_6 : Int32) (rmstill_7 : Int32) (rmdone_8 : Int32) (rmunder_9 : (Nat → Int32)) (k8 : Int32 → Int32 → (Nat → Int32) → Int32 → Int32 → Int32 → Int32 → (Nat → Int32) → (Nat → Int32) → (Nat → Int32) → (Nat → Int32) → (Nat → Int32) → (Nat → Int32) → Option (Int32 × (Nat → Int32) × Int32 × Int32 × Int32 × Int32 × (Nat → Int32) × (Nat → Int32) × (Nat → Int32) × Int32 × Int32 × Int32 × Int32 × (Nat → Int32) × (Nat → Int32) × (Nat → Int32) × (Nat → Int32))) (v11 : Int32) (v12 : Int32) (rnum_13 : (Nat → Int32)) (rpsq_14 : Int32) (rppa_15 : Int32) (rppe_16 : Int32) (rpwo_17 : Int32) (rpkind_18 : (Nat → Int32)) (rpwsq_19 : (Nat → Int32)) (rpwhr_20 : (Nat → Int32)) (rmhour_21 : (Nat → Int32)) (rmworn_22 : (Nat → Int32)) (rmsquare_23 : (Nat → Int32)) : f_X3_placeOfFault_L8 ylen ylet rmgone_5 rmmet_6 rmstill_7 rmdone_8 rmunder_9 k8 0 v11 v12 rnum_13 rpsq_14 rppa_15 rppe_16 rpwo_17 rpkind_18 rpwsq_19 rpwhr_20 rmhour_21 rmworn_22 rmsquare_23 = none := rfl
theorem f_X3_placeOfFault_L8_s (ylen : Int32) (ylet : (Nat → Int32)) (rmgone_5 : Int32) (rmmet_6 : Int32) (rmstill_7 : Int32) (rmdone_8 : Int32) (rmunder_9 : (Nat → Int32)) (k8 : Int32 → Int32 → (Nat → Int32) → Int32 → Int32 → Int32 → Int32 → (Nat → Int32) → (Nat → Int32) → (Nat → Int32) → (Nat → Int32) → (Nat → Int32) → (Nat → Int32) → Option (Int32 × (Nat → Int32) × Int32 × Int32 × Int32 × Int32 × (Nat → Int32) × (Nat → Int32) × (Nat → Int32) × Int32 × Int32 × Int32 × Int32 × (Nat → Int32) × (Nat → Int32) × (Nat → Int32) × (Nat → Int32))) (nf8 : Nat) (v11 : Int32) (v12 : Int32) (rnum_13 : (Nat → Int32)) (rpsq_14 : Int32) (rppa_15 : Int32) (rppe_16 : Int32) (rpwo_17 : Int32) (rpkind_18 : (Nat → Int32)) (rpwsq_19 : (Nat → Int32)) (rpwhr_20 : (Nat → Int32)) (rmhour_21 : (Nat → Int32)) (rmworn_22 : (Nat → Int32)) (rmsquare_23 : (Nat → Int32)) : f_X3_placeOfFault_L8 ylen ylet rmgone_5 rmmet_6 rmstill_7 rmdone_8 rmunder_9 k8 (nf8 + 1) v11 v12 rnum_13 rpsq_14 rppa_15 rppe_16 rpwo_17 rpkind_18 rpwsq_19 rpwhr_20 rmhour_21 rmworn_22 rmsquare_23 = (if (200 : Int32) ≤ v12 then (k8 v11 v12 rnum_13 rpsq_14 rppa_15 rppe_16 rpwo_17 rpkind_18 rpwsq_19 rpwhr_20 rmhour_21 rmworn_22 rmsquare_23) else (if ylen ≤ v11 then (k8 v11 v12 rnum_13 rpsq_14 rppa_15 rppe_16 rpwo_17 rpkind_18 rpwsq_19 rpwhr_20 rmhour_21 rmworn_22 rmsquare_23) else (Option.bind (f_X3_behindItem rnum_13 rpsq_14 rppa_15 rppe_16 rpwo_17 rpkind_18 rpwsq_19 rpwhr_20 rmhour_21 rmworn_22 rmsquare_23 ylen ylet v11) fun (r26, rnum_27, rpsq_28, rppa_29, rppe_30, rpwo_31, rpkind_32, rpwsq_33, rpwhr_34, rmhour_35, rmworn_36, rmsquare_37) => (if r26 = (-4 : Int32) then (some (v11, rnum_27, rpsq_28, rppa_29, rppe_30, rpwo_31, rpkind_32, rpwsq_33, rpwhr_34, rmgone_5, rmmet_6, rmstill_7, rmdone_8, rmhour_35, rmworn_36, rmsquare_37, rmunder_9)) else (f_X3_placeOfFault_L8 ylen ylet rmgone_5 rmmet_6 rmstill_7 rmdone_8 rmunder_9 k8 nf8 r26 (v12 + (1 : Int32)) rnum_27 rpsq_28 rppa_29 rppe_30 rpwo_31 rpkind_32 rpwsq_33 rpwhr_34 rmhour_35 rmworn_36 rmsquare_37))))) := rfl

def f_X3_placeOfFault (rnum : (Nat → Int32)) (rpkind : (Nat → Int32)) (rpwsq : (Nat → Int32)) (rpwhr : (Nat → Int32)) (rmhour : (Nat → Int32)) (rmworn : (Nat → Int32)) (rmsquare : (Nat → Int32)) (rmunder : (Nat → Int32)) (ylen : Int32) (ylet : (Nat → Int32)) : Option (Int32 × (Nat → Int32) × Int32 × Int32 × Int32 × Int32 × (Nat → Int32) × (Nat → Int32) × (Nat → Int32) × Int32 × Int32 × Int32 × Int32 × (Nat → Int32) × (Nat → Int32) × (Nat → Int32) × (Nat → Int32)) := (Option.bind (f_X3_clear rmunder) fun (rpsq_1, rppa_2, rppe_3, rpwo_4, rmgone_5, rmmet_6, rmstill_7, rmdone_8, rmunder_9) => (f_X3_placeOfFault_L8 ylen ylet rmgone_5 rmmet_6 rmstill_7 rmdone_8 rmunder_9 (fun (v11 : Int32) (v12 : Int32) (rnum_13 : (Nat → Int32)) (rpsq_14 : Int32) (rppa_15 : Int32) (rppe_16 : Int32) (rpwo_17 : Int32) (rpkind_18 : (Nat → Int32)) (rpwsq_19 : (Nat → Int32)) (rpwhr_20 : (Nat → Int32)) (rmhour_21 : (Nat → Int32)) (rmworn_22 : (Nat → Int32)) (rmsquare_23 : (Nat → Int32)) => (some ((-4 : Int32), rnum_13, rpsq_14, rppa_15, rppe_16, rpwo_17, rpkind_18, rpwsq_19, rpwhr_20, rmgone_5, rmmet_6, rmstill_7, rmdone_8, rmhour_21, rmworn_22, rmsquare_23, rmunder_9))) 20000 (0 : Int32) (0 : Int32) rnum rpsq_1 rppa_2 rppe_3 rpwo_4 rpkind rpwsq rpwhr rmhour rmworn rmsquare))

def rm_X3_placeOfFault : Room := { frames := 4, cells := 0, slots := 0, locals := 92 }

theorem pd_X3_placeOfFault : yX3_placeOfFault.cls ≠ "java/lang/invoke/MethodHandle" ∧ yX3_placeOfFault.cls ≠ "java/lang/invoke/VarHandle" ∧ (parseMethodDescriptor yX3_placeOfFault.desc).map (fun d => d.parameters.length) = some 1 := by decide +kernel

set_option maxHeartbeats 4000000 in
set_option maxRecDepth 100000 in
theorem c_X3_placeOfFault (l : Launch) (D : va_G) (cI cC cM : ClassId) (ar arn arp arpk arpq arpr arm armh armw arms armu ay ayl : Nat) (rnum : (Nat → Int32)) (rpsq : Int32) (rppa : Int32) (rppe : Int32) (rpwo : Int32) (rpkind : (Nat → Int32)) (rpwsq : (Nat → Int32)) (rpwhr : (Nat → Int32)) (rmgone : Int32) (rmmet : Int32) (rmstill : Int32) (rmdone : Int32) (rmhour : (Nat → Int32)) (rmworn : (Nat → Int32)) (rmsquare : (Nat → Int32)) (rmunder : (Nat → Int32)) (ylen : Int32) (ylet : (Nat → Int32)) (rr : Int32) (rnum' : (Nat → Int32)) (rpsq' : Int32) (rppa' : Int32) (rppe' : Int32) (rpwo' : Int32) (rpkind' : (Nat → Int32)) (rpwsq' : (Nat → Int32)) (rpwhr' : (Nat → Int32)) (rmgone' : Int32) (rmmet' : Int32) (rmstill' : Int32) (rmdone' : Int32) (rmhour' : (Nat → Int32)) (rmworn' : (Nat → Int32)) (rmsquare' : (Nat → Int32)) (rmunder' : (Nat → Int32)) (hF : f_X3_placeOfFault rnum rpkind rpwsq rpwhr rmhour rmworn rmsquare rmunder ylen ylet = some (rr, rnum', rpsq', rppa', rppe', rpwo', rpkind', rpwsq', rpwhr', rmgone', rmmet', rmstill', rmdone', rmhour', rmworn', rmsquare', rmunder')) : CI l D cI cC cM yX3_placeOfFault wsX3_placeOfFault rm_X3_placeOfFault [.ref ar, .ref ay] [(ar, .inr (3, [.ref arp, .ref arm, .ref arn])), (arn, .inl (cI, 3, .inl rnum)), (arp, .inr (2, [.int rpsq, .int rppa, .int rppe, .int rpwo, .ref arpk, .ref arpq, .ref arpr])), (arpk, .inl (cI, 6, .inl rpkind)), (arpq, .inl (cI, 6, .inl rpwsq)), (arpr, .inl (cI, 6, .inl rpwhr)), (arm, .inr (1, [.ref arp, .int rmgone, .int rmmet, .int rmstill, .int rmdone, .ref armh, .ref armw, .ref arms, .ref armu])), (armh, .inl (cI, 6, .inl rmhour)), (armw, .inl (cI, 6, .inl rmworn)), (arms, .inl (cI, 5, .inl rmsquare)), (armu, .inl (cI, 5, .inl rmunder)), (ay, .inr (6, [.ref ayl, .int ylen])), (ayl, .inl (cC, 200, .inl ylet))] [(ar, .inr (3, [.ref arp, .ref arm, .ref arn])), (arn, .inl (cI, 3, .inl rnum')), (arp, .inr (2, [.int rpsq', .int rppa', .int rppe', .int rpwo', .ref arpk, .ref arpq, .ref arpr])), (arpk, .inl (cI, 6, .inl rpkind')), (arpq, .inl (cI, 6, .inl rpwsq')), (arpr, .inl (cI, 6, .inl rpwhr')), (arm, .inr (1, [.ref arp, .int rmgone', .int rmmet', .int rmstill', .int rmdone', .ref armh, .ref armw, .ref arms, .ref armu])), (armh, .inl (cI, 6, .inl rmhour')), (armw, .inl (cI, 6, .inl rmworn')), (arms, .inl (cI, 5, .inl rmsquare')), (armu, .inl (cI, 5, .inl rmunder')), (ay, .inr (6, [.ref ayl, .int ylen])), (ayl, .inl (cC, 200, .inl ylet))] rr := by
  refine CI.of (cc := cX3_placeOfFault) (nL := 5) (ret := (some .int)) (by decide) rfl (Nat.le_of_ble_eq_true rfl) ?_
  intro p e s m args below meth c A hC hP hD hS ls hl
  obtain ⟨hx, hb, hml, hown, hts, hr, hlk, hG, hA⟩ := id hC
  have hown : s.vm.findClass RX3 = some m.cls := hown
  have hK := hG.1
  have hl : lv_has ls 5 [(0, .ref ar), (1, .ref ay)] := hl
  have k_f34 := hts (.fieldLink RX3 34 "ParasolHours$Text" "length" "I") (List.mem_of_getElem? (i := 1) rfl)
  have iX6 : ∀ w ∈ wsX60, w ∈ wsX3_placeOfFault := by decide +kernel
  obtain ⟨Q, hQ⟩ : ∃ Q, Q = MQ below (QI D [(ar, .inr (3, [.ref arp, .ref arm, .ref arn])), (arn, .inl (cI, 3, .inl rnum')), (arp, .inr (2, [.int rpsq', .int rppa', .int rppe', .int rpwo', .ref arpk, .ref arpq, .ref arpr])), (arpk, .inl (cI, 6, .inl rpkind')), (arpq, .inl (cI, 6, .inl rpwsq')), (arpr, .inl (cI, 6, .inl rpwhr')), (arm, .inr (1, [.ref arp, .int rmgone', .int rmmet', .int rmstill', .int rmdone', .ref armh, .ref armw, .ref arms, .ref armu])), (armh, .inl (cI, 6, .inl rmhour')), (armw, .inl (cI, 6, .inl rmworn')), (arms, .inl (cI, 5, .inl rmsquare')), (armu, .inl (cI, 5, .inl rmunder')), (ay, .inr (6, [.ref ayl, .int ylen])), (ayl, .inl (cC, 200, .inl ylet))] rr A) args s 0 0 A := ⟨_, rfl⟩
  rw [← hQ]
  unfold f_X3_placeOfFault at hF
  refine lv_aload_n hx hb dX3_placeOfFault_0 rfl (lv_at hl 0 rfl) ?_
  obtain ⟨⟨rpsq_1, rppa_2, rppe_3, rpwo_4, rmgone_5, rmmet_6, rmstill_7, rmdone_8, rmunder_9⟩, hb10, hF⟩ := op_bind hF
  refine xVv (As := []) (rest := []) hC hP hD hS [0, 1, 2, 3, 4, 5, 6, 7, 8, 9, 10] (c_X3_clear l D cI cC cM ar arn arp arpk arpq arpr arm armh armw arms armu rnum rpsq rppa rppe rpwo rpkind rpwsq rpwhr rmgone rmmet rmstill rmdone rmhour rmworn rmsquare rmunder rpsq_1 rppa_2 rppe_3 rpwo_4 rmgone_5 rmmet_6 rmstill_7 rmdone_8 rmunder_9 hb10) (cwV 0 hts gX3_placeOfFault_X3_clear rfl rfl rfl ⟨rfl, pd_X3_clear⟩ ⟨Nat.le_of_ble_eq_true rfl, Nat.le_of_ble_eq_true rfl⟩) rfl rfl rfl 0 3 rfl rfl rfl rfl hl.1 rfl (Nat.le_of_ble_eq_true rfl) dX3_placeOfFault_1 ⟨Nat.zero_le _, Nat.zero_le _⟩ (fun H locs hP hD hS => ?_)
  have hP : va_P D vwCl [(ar, .inr (3, [.ref arp, .ref arm, .ref arn])), (arn, .inl (cI, 3, .inl rnum)), (arp, .inr (2, [.int rpsq_1, .int rppa_2, .int rppe_3, .int rpwo_4, .ref arpk, .ref arpq, .ref arpr])), (arpk, .inl (cI, 6, .inl rpkind)), (arpq, .inl (cI, 6, .inl rpwsq)), (arpr, .inl (cI, 6, .inl rpwhr)), (arm, .inr (1, [.ref arp, .int rmgone_5, .int rmmet_6, .int rmstill_7, .int rmdone_8, .ref armh, .ref armw, .ref arms, .ref armu])), (armh, .inl (cI, 6, .inl rmhour)), (armw, .inl (cI, 6, .inl rmworn)), (arms, .inl (cI, 5, .inl rmsquare)), (armu, .inl (cI, 5, .inl rmunder_9)), (ay, .inr (6, [.ref ayl, .int ylen])), (ayl, .inl (cC, 200, .inl ylet))] H := hP
  have hD : va_D A [(ar, .inr (3, [.ref arp, .ref arm, .ref arn])), (arn, .inl (cI, 3, .inl rnum)), (arp, .inr (2, [.int rpsq_1, .int rppa_2, .int rppe_3, .int rpwo_4, .ref arpk, .ref arpq, .ref arpr])), (arpk, .inl (cI, 6, .inl rpkind)), (arpq, .inl (cI, 6, .inl rpwsq)), (arpr, .inl (cI, 6, .inl rpwhr)), (arm, .inr (1, [.ref arp, .int rmgone_5, .int rmmet_6, .int rmstill_7, .int rmdone_8, .ref armh, .ref armw, .ref arms, .ref armu])), (armh, .inl (cI, 6, .inl rmhour)), (armw, .inl (cI, 6, .inl rmworn)), (arms, .inl (cI, 5, .inl rmsquare)), (armu, .inl (cI, 5, .inl rmunder_9)), (ay, .inr (6, [.ref ayl, .int ylen])), (ayl, .inl (cC, 200, .inl ylet))] := hD
  refine lv_iconst (v := (0 : Int32)) hx hb dX3_placeOfFault_4 (by decide) ?_
  refine lv_istore_n (lv' := [(2, .int (0 : Int32)), (0, .ref ar), (1, .ref ay)]) hx hb dX3_placeOfFault_5 rfl hl (by decide) rfl (fun ls hl => ?_)
  refine lv_iconst (v := (0 : Int32)) hx hb dX3_placeOfFault_6 (by decide) ?_
  refine lv_istore_n (lv' := [(3, .int (0 : Int32)), (2, .int (0 : Int32)), (0, .ref ar), (1, .ref ay)]) hx hb dX3_placeOfFault_7 rfl hl (by decide) rfl (fun ls hl => ?_)
  have hL8 : ∀ (k8 : Int32 → Int32 → (Nat → Int32) → Int32 → Int32 → Int32 → Int32 → (Nat → Int32) → (Nat → Int32) → (Nat → Int32) → (Nat → Int32) → (Nat → Int32) → (Nat → Int32) → Option (Int32 × (Nat → Int32) × Int32 × Int32 × Int32 × Int32 × (Nat → Int32) × (Nat → Int32) × (Nat → Int32) × Int32 × Int32 × Int32 × Int32 × (Nat → Int32) × (Nat → Int32) × (Nat → Int32) × (Nat → Int32))), (∀ (v11 : Int32) (v12 : Int32) (rnum_13 : (Nat → Int32)) (rpsq_14 : Int32) (rppa_15 : Int32) (rppe_16 : Int32) (rpwo_17 : Int32) (rpkind_18 : (Nat → Int32)) (rpwsq_19 : (Nat → Int32)) (rpwhr_20 : (Nat → Int32)) (rmhour_21 : (Nat → Int32)) (rmworn_22 : (Nat → Int32)) (rmsquare_23 : (Nat → Int32)) (H : Heap) (locs : List Loc), va_P D vwCl [(ar, .inr (3, [.ref arp, .ref arm, .ref arn])), (arn, .inl (cI, 3, .inl rnum_13)), (arp, .inr (2, [.int rpsq_14, .int rppa_15, .int rppe_16, .int rpwo_17, .ref arpk, .ref arpq, .ref arpr])), (arpk, .inl (cI, 6, .inl rpkind_18)), (arpq, .inl (cI, 6, .inl rpwsq_19)), (arpr, .inl (cI, 6, .inl rpwhr_20)), (arm, .inr (1, [.ref arp, .int rmgone_5, .int rmmet_6, .int rmstill_7, .int rmdone_8, .ref armh, .ref armw, .ref arms, .ref armu])), (armh, .inl (cI, 6, .inl rmhour_21)), (armw, .inl (cI, 6, .inl rmworn_22)), (arms, .inl (cI, 5, .inl rmsquare_23)), (armu, .inl (cI, 5, .inl rmunder_9)), (ay, .inr (6, [.ref ayl, .int ylen])), (ayl, .inl (cC, 200, .inl ylet))] H → va_D A [(ar, .inr (3, [.ref arp, .ref arm, .ref arn])), (arn, .inl (cI, 3, .inl rnum_13)), (arp, .inr (2, [.int rpsq_14, .int rppa_15, .int rppe_16, .int rpwo_17, .ref arpk, .ref arpq, .ref arpr])), (arpk, .inl (cI, 6, .inl rpkind_18)), (arpq, .inl (cI, 6, .inl rpwsq_19)), (arpr, .inl (cI, 6, .inl rpwhr_20)), (arm, .inr (1, [.ref arp, .int rmgone_5, .int rmmet_6, .int rmstill_7, .int rmdone_8, .ref armh, .ref armw, .ref arms, .ref armu])), (armh, .inl (cI, 6, .inl rmhour_21)), (armw, .inl (cI, 6, .inl rmworn_22)), (arms, .inl (cI, 5, .inl rmsquare_23)), (armu, .inl (cI, 5, .inl rmunder_9)), (ay, .inr (6, [.ref ayl, .int ylen])), (ayl, .inl (cC, 200, .inl ylet))] → va_S A s.heap H locs → ∀ ls : Array Slot, lv_has ls 5 [] → k8 v11 v12 rnum_13 rpsq_14 rppa_15 rppe_16 rpwo_17 rpkind_18 rpwsq_19 rpwhr_20 rmhour_21 rmworn_22 rmsquare_23 = some (rr, rnum', rpsq', rppa', rppe', rpwo', rpkind', rpwsq', rpwhr', rmgone', rmmet', rmstill', rmdone', rmhour', rmworn', rmsquare', rmunder') → W p l e rm_X3_placeOfFault s m args below meth c H locs 0 0 Q (F0 m 49 ls [])) → ∀ (nf8 : Nat) (v11 : Int32) (v12 : Int32) (rnum_13 : (Nat → Int32)) (rpsq_14 : Int32) (rppa_15 : Int32) (rppe_16 : Int32) (rpwo_17 : Int32) (rpkind_18 : (Nat → Int32)) (rpwsq_19 : (Nat → Int32)) (rpwhr_20 : (Nat → Int32)) (rmhour_21 : (Nat → Int32)) (rmworn_22 : (Nat → Int32)) (rmsquare_23 : (Nat → Int32)) (H : Heap) (locs : List Loc), va_P D vwCl [(ar, .inr (3, [.ref arp, .ref arm, .ref arn])), (arn, .inl (cI, 3, .inl rnum_13)), (arp, .inr (2, [.int rpsq_14, .int rppa_15, .int rppe_16, .int rpwo_17, .ref arpk, .ref arpq, .ref arpr])), (arpk, .inl (cI, 6, .inl rpkind_18)), (arpq, .inl (cI, 6, .inl rpwsq_19)), (arpr, .inl (cI, 6, .inl rpwhr_20)), (arm, .inr (1, [.ref arp, .int rmgone_5, .int rmmet_6, .int rmstill_7, .int rmdone_8, .ref armh, .ref armw, .ref arms, .ref armu])), (armh, .inl (cI, 6, .inl rmhour_21)), (armw, .inl (cI, 6, .inl rmworn_22)), (arms, .inl (cI, 5, .inl rmsquare_23)), (armu, .inl (cI, 5, .inl rmunder_9)), (ay, .inr (6, [.ref ayl, .int ylen])), (ayl, .inl (cC, 200, .inl ylet))] H → va_D A [(ar, .inr (3, [.ref arp, .ref arm, .ref arn])), (arn, .inl (cI, 3, .inl rnum_13)), (arp, .inr (2, [.int rpsq_14, .int rppa_15, .int rppe_16, .int rpwo_17, .ref arpk, .ref arpq, .ref arpr])), (arpk, .inl (cI, 6, .inl rpkind_18)), (arpq, .inl (cI, 6, .inl rpwsq_19)), (arpr, .inl (cI, 6, .inl rpwhr_20)), (arm, .inr (1, [.ref arp, .int rmgone_5, .int rmmet_6, .int rmstill_7, .int rmdone_8, .ref armh, .ref armw, .ref arms, .ref armu])), (armh, .inl (cI, 6, .inl rmhour_21)), (armw, .inl (cI, 6, .inl rmworn_22)), (arms, .inl (cI, 5, .inl rmsquare_23)), (armu, .inl (cI, 5, .inl rmunder_9)), (ay, .inr (6, [.ref ayl, .int ylen])), (ayl, .inl (cC, 200, .inl ylet))] → va_S A s.heap H locs → ∀ ls : Array Slot, lv_has ls 5 [(3, .int v12), (2, .int v11), (0, .ref ar), (1, .ref ay)] → f_X3_placeOfFault_L8 ylen ylet rmgone_5 rmmet_6 rmstill_7 rmdone_8 rmunder_9 k8 nf8 v11 v12 rnum_13 rpsq_14 rppa_15 rppe_16 rpwo_17 rpkind_18 rpwsq_19 rpwhr_20 rmhour_21 rmworn_22 rmsquare_23 = some (rr, rnum', rpsq', rppa', rppe', rpwo', rpkind', rpwsq', rpwhr', rmgone', rmmet', rmstill', rmdone', rmhour', rmworn', rmsquare', rmunder') → W p l e rm_X3_placeOfFault s m args below meth c H locs 0 0 Q (F0 m 8 ls []) := by
    intro k8 hk8 nf8
    induction nf8 with
    | zero =>
      intro v11 v12 rnum_13 rpsq_14 rppa_15 rppe_16 rpwo_17 rpkind_18 rpwsq_19 rpwhr_20 rmhour_21 rmworn_22 rmsquare_23 H locs hP hD hS ls hl hF
      rw [f_X3_placeOfFault_L8_0] at hF
      cases hF
    | succ nf8 ih8 =>
      intro v11 v12 rnum_13 rpsq_14 rppa_15 rppe_16 rpwo_17 rpkind_18 rpwsq_19 rpwhr_20 rmhour_21 rmworn_22 rmsquare_23 H locs hP hD hS ls hl hF
      rw [f_X3_placeOfFault_L8_s] at hF
      refine lv_iload_n hx hb dX3_placeOfFault_8 rfl (lv_at hl 0 rfl) ?_
      refine lv_sipush (v := (200 : Int32)) hx hb dX3_placeOfFault_9 (by decide) ?_
      refine lv_icmp_ge (tgt := 49) hx hb dX3_placeOfFault_12 (by decide) (fun c24 => ?_) (fun c24 => ?_)
      · have hF := op_pos c24 hF
        exact hk8 v11 v12 rnum_13 rpsq_14 rppa_15 rppe_16 rpwo_17 rpkind_18 rpwsq_19 rpwhr_20 rmhour_21 rmworn_22 rmsquare_23 _ _ hP hD hS _ (lv_sub hl [] rfl) hF
      · have hF := op_neg c24 hF
        refine lv_iload_n hx hb dX3_placeOfFault_15 rfl (lv_at hl 1 rfl) ?_
        refine lv_aload_n hx hb dX3_placeOfFault_16 rfl (lv_at hl 3 rfl) ?_
        refine va_get (D := D) (ci := 6) (v := .int ylen) (C := RX6) (T := TX6) (N := 2) hx hb hts iX6 hown hK hP 11 rfl rfl 1 (by decide) k_f34 (fun _ h9 => h9) rfl dX3_placeOfFault_17 ?_
        refine lv_icmp_ge (tgt := 49) hx hb dX3_placeOfFault_20 (by decide) (fun c25 => ?_) (fun c25 => ?_)
        · have hF := op_pos c25 hF
          exact hk8 v11 v12 rnum_13 rpsq_14 rppa_15 rppe_16 rpwo_17 rpkind_18 rpwsq_19 rpwhr_20 rmhour_21 rmworn_22 rmsquare_23 _ _ hP hD hS _ (lv_sub hl [] rfl) hF
        · have hF := op_neg c25 hF
          refine lv_aload_n hx hb dX3_placeOfFault_23 rfl (lv_at hl 2 rfl) ?_
          refine lv_aload_n hx hb dX3_placeOfFault_24 rfl (lv_at hl 3 rfl) ?_
          refine lv_iload_n hx hb dX3_placeOfFault_25 rfl (lv_at hl 1 rfl) ?_
          obtain ⟨⟨r26, rnum_27, rpsq_28, rppa_29, rppe_30, rpwo_31, rpkind_32, rpwsq_33, rpwhr_34, rmhour_35, rmworn_36, rmsquare_37⟩, hb38, hF⟩ := op_bind hF
          refine xVi (As := [.ref ay, .int v11]) (rest := []) hC hP hD hS [0, 1, 2, 3, 4, 5, 6, 7, 8, 9, 10, 11, 12] (c_X3_behindItem l D cI cC cM ar arn arp arpk arpq arpr arm armh armw arms armu ay ayl rnum_13 rpsq_14 rppa_15 rppe_16 rpwo_17 rpkind_18 rpwsq_19 rpwhr_20 rmgone_5 rmmet_6 rmstill_7 rmdone_8 rmhour_21 rmworn_22 rmsquare_23 rmunder_9 ylen ylet v11 r26 rnum_27 rpsq_28 rppa_29 rppe_30 rpwo_31 rpkind_32 rpwsq_33 rpwhr_34 rmhour_35 rmworn_36 rmsquare_37 hb38) (cwV 2 hts gX3_placeOfFault_X3_behindItem rfl rfl rfl ⟨rfl, pd_X3_behindItem⟩ ⟨Nat.le_of_ble_eq_true rfl, Nat.le_of_ble_eq_true rfl⟩) rfl rfl rfl 0 3 rfl rfl rfl rfl hl.1 rfl (Nat.le_of_ble_eq_true rfl) dX3_placeOfFault_26 ⟨Nat.zero_le _, Nat.zero_le _⟩ (fun H locs hP hD hS => ?_)
          have hP : va_P D vwCl [(ar, .inr (3, [.ref arp, .ref arm, .ref arn])), (arn, .inl (cI, 3, .inl rnum_27)), (arp, .inr (2, [.int rpsq_28, .int rppa_29, .int rppe_30, .int rpwo_31, .ref arpk, .ref arpq, .ref arpr])), (arpk, .inl (cI, 6, .inl rpkind_32)), (arpq, .inl (cI, 6, .inl rpwsq_33)), (arpr, .inl (cI, 6, .inl rpwhr_34)), (arm, .inr (1, [.ref arp, .int rmgone_5, .int rmmet_6, .int rmstill_7, .int rmdone_8, .ref armh, .ref armw, .ref arms, .ref armu])), (armh, .inl (cI, 6, .inl rmhour_35)), (armw, .inl (cI, 6, .inl rmworn_36)), (arms, .inl (cI, 5, .inl rmsquare_37)), (armu, .inl (cI, 5, .inl rmunder_9)), (ay, .inr (6, [.ref ayl, .int ylen])), (ayl, .inl (cC, 200, .inl ylet))] H := hP
          have hD : va_D A [(ar, .inr (3, [.ref arp, .ref arm, .ref arn])), (arn, .inl (cI, 3, .inl rnum_27)), (arp, .inr (2, [.int rpsq_28, .int rppa_29, .int rppe_30, .int rpwo_31, .ref arpk, .ref arpq, .ref arpr])), (arpk, .inl (cI, 6, .inl rpkind_32)), (arpq, .inl (cI, 6, .inl rpwsq_33)), (arpr, .inl (cI, 6, .inl rpwhr_34)), (arm, .inr (1, [.ref arp, .int rmgone_5, .int rmmet_6, .int rmstill_7, .int rmdone_8, .ref armh, .ref armw, .ref arms, .ref armu])), (armh, .inl (cI, 6, .inl rmhour_35)), (armw, .inl (cI, 6, .inl rmworn_36)), (arms, .inl (cI, 5, .inl rmsquare_37)), (armu, .inl (cI, 5, .inl rmunder_9)), (ay, .inr (6, [.ref ayl, .int ylen])), (ayl, .inl (cC, 200, .inl ylet))] := hD
          refine lv_istore (lv' := [(4, .int r26), (3, .int v12), (2, .int v11), (0, .ref ar), (1, .ref ay)]) hx hb dX3_placeOfFault_29 hl (by decide) rfl (fun ls hl => ?_)
          refine lv_iload hx hb dX3_placeOfFault_31 (lv_at hl 0 rfl) ?_
          refine lv_bipush (v := (-4 : Int32)) hx hb dX3_placeOfFault_33 (by decide) ?_
          refine lv_icmp_ne (tgt := 40) hx hb dX3_placeOfFault_35 (by decide) (fun c39 => ?_) (fun c39 => ?_)
          · have hF := op_neg c39 hF
            refine lv_iload hx hb dX3_placeOfFault_40 (lv_at hl 0 rfl) ?_
            refine lv_istore_n (lv' := [(2, .int r26), (4, .int r26), (3, .int v12), (0, .ref ar), (1, .ref ay)]) hx hb dX3_placeOfFault_42 rfl hl (by decide) rfl (fun ls hl => ?_)
            refine lv_iinc (v := (v12 + (1 : Int32))) (lv' := [(3, .int (v12 + (1 : Int32))), (2, .int r26), (4, .int r26), (0, .ref ar), (1, .ref ay)]) hx hb dX3_placeOfFault_43 hl (k := 2) rfl (by first | rfl | decide) (by decide) rfl (fun ls hl => ?_)
            refine lv_goto (tgt := 8) hx hb dX3_placeOfFault_46 (by decide) ?_
            exact ih8 r26 (v12 + (1 : Int32)) rnum_27 rpsq_28 rppa_29 rppe_30 rpwo_31 rpkind_32 rpwsq_33 rpwhr_34 rmhour_35 rmworn_36 rmsquare_37 _ _ hP hD hS _ (lv_sub hl [0, 1, 3, 4] rfl) hF
          · have hF := op_pos c39 hF
            refine lv_iload_n hx hb dX3_placeOfFault_38 rfl (lv_at hl 2 rfl) ?_
            cases hF
            rw [hQ]
            exact xri hC hP hS dX3_placeOfFault_39
  refine hL8 _ (fun v11 v12 rnum_13 rpsq_14 rppa_15 rppe_16 rpwo_17 rpkind_18 rpwsq_19 rpwhr_20 rmhour_21 rmworn_22 rmsquare_23 H locs hP hD hS ls hl hF => ?_) 20000 (0 : Int32) (0 : Int32) rnum rpsq_1 rppa_2 rppe_3 rpwo_4 rpkind rpwsq rpwhr rmhour rmworn rmsquare _ _ hP hD hS _ (lv_sub hl [0, 1, 2, 3] rfl) hF
  refine lv_bipush (v := (-4 : Int32)) hx hb dX3_placeOfFault_49 (by decide) ?_
  cases hF
  rw [hQ]
  exact xri hC hP hS dX3_placeOfFault_51
