def f_X1_hourFrom (qgone : Int32) (pkind : (Nat → Int32)) (u : Int32) (i : Int32) (n : Int32) : Option Int32 := (Option.bind (f_X2_kindOf pkind u) fun r1 => (Option.bind (f_X7_turnsOf r1 qgone n) fun r3 => (Option.bind (f_X7_turnOf r1) fun r5 => (some (jrem (i + (r3 * r5)) (24 : Int32))))))

def rm_X1_hourFrom : Room := { frames := 2, cells := 0, slots := 0, locals := 43 }

theorem pd_X1_hourFrom : yX1_hourFrom.cls ≠ "java/lang/invoke/MethodHandle" ∧ yX1_hourFrom.cls ≠ "java/lang/invoke/VarHandle" ∧ (parseMethodDescriptor yX1_hourFrom.desc).map (fun d => d.parameters.length) = some 3 := by decide +kernel

set_option maxHeartbeats 4000000 in
set_option maxRecDepth 100000 in
theorem c_X1_hourFrom (l : Launch) (D : va_G) (cI cC cM : ClassId) (aq aqh aqw aqs aqu ap apk apq apr : Nat) (qgone : Int32) (qmet : Int32) (qstill : Int32) (qdone : Int32) (qhour : (Nat → Int32)) (qworn : (Nat → Int32)) (qsquare : (Nat → Int32)) (qunder : (Nat → Int32)) (psq : Int32) (ppa : Int32) (ppe : Int32) (pwo : Int32) (pkind : (Nat → Int32)) (pwsq : (Nat → Int32)) (pwhr : (Nat → Int32)) (u : Int32) (i : Int32) (n : Int32) (rr : Int32) (hF : f_X1_hourFrom qgone pkind u i n = some rr) : CI l D cI cC cM yX1_hourFrom wsX1_hourFrom rm_X1_hourFrom [.ref aq, .int u, .int i, .int n] [(aq, .inr (1, [.ref ap, .int qgone, .int qmet, .int qstill, .int qdone, .ref aqh, .ref aqw, .ref aqs, .ref aqu])), (aqh, .inl (cI, 6, .inl qhour)), (aqw, .inl (cI, 6, .inl qworn)), (aqs, .inl (cI, 5, .inl qsquare)), (aqu, .inl (cI, 5, .inl qunder)), (ap, .inr (2, [.int psq, .int ppa, .int ppe, .int pwo, .ref apk, .ref apq, .ref apr])), (apk, .inl (cI, 6, .inl pkind)), (apq, .inl (cI, 6, .inl pwsq)), (apr, .inl (cI, 6, .inl pwhr))] [(aq, .inr (1, [.ref ap, .int qgone, .int qmet, .int qstill, .int qdone, .ref aqh, .ref aqw, .ref aqs, .ref aqu])), (aqh, .inl (cI, 6, .inl qhour)), (aqw, .inl (cI, 6, .inl qworn)), (aqs, .inl (cI, 5, .inl qsquare)), (aqu, .inl (cI, 5, .inl qunder)), (ap, .inr (2, [.int psq, .int ppa, .int ppe, .int pwo, .ref apk, .ref apq, .ref apr])), (apk, .inl (cI, 6, .inl pkind)), (apq, .inl (cI, 6, .inl pwsq)), (apr, .inl (cI, 6, .inl pwhr))] rr := by
  refine CI.of (cc := cX1_hourFrom) (nL := 5) (ret := (some .int)) (by decide) rfl (Nat.le_of_ble_eq_true rfl) ?_
  intro p e s m args below meth c A hC hP hD hS ls hl
  obtain ⟨hx, hb, hml, hown, hts, hr, hlk, hG, hA⟩ := id hC
  have hown : s.vm.findClass RX1 = some m.cls := hown
  have hK := hG.1
  have hl : lv_has ls 5 [(0, .ref aq), (1, .int u), (2, .int i), (3, .int n)] := hl
  have k_f24 := hts (.fieldLink RX1 24 "ParasolHours$Moment" "plan" "LParasolHours$Plan;") (List.mem_of_getElem? (i := 1) rfl)
  have k_f28 := hts (.fieldLink RX1 28 "ParasolHours$Moment" "gone" "I") (List.mem_of_getElem? (i := 2) rfl)
  have k_st_turnsOf := hts (.static yX7_turnsOf) (List.mem_of_getElem? (i := 12) rfl)
  have k_in_X7 := hts (.initialized RX7) (List.mem_of_getElem? (i := 10) rfl)
  have k_st_turnOf := hts (.static yX7_turnOf) (List.mem_of_getElem? (i := 17) rfl)
  have iX1 : ∀ w ∈ wsX10, w ∈ wsX1_hourFrom := by decide +kernel
  obtain ⟨Q, hQ⟩ : ∃ Q, Q = MQ below (QI D [(aq, .inr (1, [.ref ap, .int qgone, .int qmet, .int qstill, .int qdone, .ref aqh, .ref aqw, .ref aqs, .ref aqu])), (aqh, .inl (cI, 6, .inl qhour)), (aqw, .inl (cI, 6, .inl qworn)), (aqs, .inl (cI, 5, .inl qsquare)), (aqu, .inl (cI, 5, .inl qunder)), (ap, .inr (2, [.int psq, .int ppa, .int ppe, .int pwo, .ref apk, .ref apq, .ref apr])), (apk, .inl (cI, 6, .inl pkind)), (apq, .inl (cI, 6, .inl pwsq)), (apr, .inl (cI, 6, .inl pwhr))] rr A) args s 0 0 A := ⟨_, rfl⟩
  rw [← hQ]
  unfold f_X1_hourFrom at hF
  refine lv_aload_n hx hb dX1_hourFrom_0 rfl (lv_at hl 0 rfl) ?_
  refine va_get (D := D) (ci := 1) (v := .ref ap) (C := RX1) (T := TX1) (N := 9) hx hb hts iX1 hown hK hP 0 rfl rfl 0 (by decide) k_f24 (fun _ h9 => h9) rfl dX1_hourFrom_1 ?_
  refine lv_iload_n hx hb dX1_hourFrom_4 rfl (lv_at hl 1 rfl) ?_
  obtain ⟨r1, hb2, hF⟩ := op_bind hF
  refine xVr (As := [.int u]) (rest := []) hC hP hD hS [5, 6, 7, 8] (c_X2_kindOf l D cI cC cM ap apk apq apr psq ppa ppe pwo pkind pwsq pwhr u r1 hb2) (cwV 1 hts gX1_hourFrom_X2_kindOf rfl rfl rfl ⟨rfl, pd_X2_kindOf⟩ ⟨Nat.le_of_ble_eq_true rfl, Nat.le_of_ble_eq_true rfl⟩) rfl rfl 5 2 rfl rfl rfl rfl hl.1 rfl (Nat.le_of_ble_eq_true rfl) dX1_hourFrom_5 ⟨Nat.zero_le _, Nat.zero_le _⟩ (fun H locs hP hS => ?_)
  refine lv_istore (lv' := [(4, .int r1), (0, .ref aq), (1, .int u), (2, .int i), (3, .int n)]) hx hb dX1_hourFrom_8 hl (by decide) rfl (fun ls hl => ?_)
  refine lv_iload_n hx hb dX1_hourFrom_10 rfl (lv_at hl 3 rfl) ?_
  refine lv_iload hx hb dX1_hourFrom_11 (lv_at hl 0 rfl) ?_
  refine lv_aload_n hx hb dX1_hourFrom_13 rfl (lv_at hl 1 rfl) ?_
  refine va_get (D := D) (ci := 1) (v := .int qgone) (C := RX1) (T := TX1) (N := 9) hx hb hts iX1 hown hK hP 0 rfl rfl 1 (by decide) k_f28 (fun _ h9 => h9) rfl dX1_hourFrom_14 ?_
  refine lv_iload_n hx hb dX1_hourFrom_17 rfl (lv_at hl 4 rfl) ?_
  obtain ⟨r3, hb4, hF⟩ := op_bind hF
  refine xNr (As := [.int r1, .int qgone, .int n]) (rest := [.int i]) hC hP hD hS [] (c_X7_turnsOf l D cI cC cM r1 qgone n r3 hb4) ⟨va_cnB 3 hts gX1_hourFrom_X7_turnsOf_n150 rfl rfl rfl (hG.nw 15 rfl) k_in_X7 pd_X7_turnsOf ⟨Nat.le_of_ble_eq_true rfl, Nat.le_of_ble_eq_true rfl⟩, k_st_turnsOf, trivial⟩ rfl rfl rfl hl.1 rfl (Nat.le_of_ble_eq_true rfl) dX1_hourFrom_18 ⟨Nat.zero_le _, Nat.zero_le _⟩ (fun H locs hP hS => ?_)
  refine lv_iload hx hb dX1_hourFrom_21 (lv_at hl 0 rfl) ?_
  obtain ⟨r5, hb6, hF⟩ := op_bind hF
  refine xNr (As := [.int r1]) (rest := [.int r3, .int i]) hC hP hD hS [] (c_X7_turnOf l D cI cC cM r1 r5 hb6) ⟨va_cnB 1 hts gX1_hourFrom_X7_turnOf_n153 rfl rfl rfl (hG.nw 16 rfl) k_in_X7 pd_X7_turnOf ⟨Nat.le_of_ble_eq_true rfl, Nat.le_of_ble_eq_true rfl⟩, k_st_turnOf, trivial⟩ rfl rfl rfl hl.1 rfl (Nat.le_of_ble_eq_true rfl) dX1_hourFrom_23 ⟨Nat.zero_le _, Nat.zero_le _⟩ (fun H locs hP hS => ?_)
  refine lv_imul hx hb dX1_hourFrom_26 ?_
  refine lv_iadd hx hb dX1_hourFrom_27 ?_
  refine lv_bipush (v := (24 : Int32)) hx hb dX1_hourFrom_28 (by decide) ?_
  refine lv_irem hx hb dX1_hourFrom_30 (by decide) ?_
  cases hF
  rw [hQ]
  exact xri hC hP hS dX1_hourFrom_31

def f_X1_hourBehind (qgone : Int32) (qhour : (Nat → Int32)) (pkind : (Nat → Int32)) (u : Int32) (n : Int32) : Option Int32 := (Option.bind (f_X1_hourOf qhour u) fun r1 => (Option.bind (f_X1_hourFrom qgone pkind u r1 n) fun r3 => (some r3)))

def rm_X1_hourBehind : Room := { frames := 3, cells := 0, slots := 0, locals := 67 }

theorem pd_X1_hourBehind : yX1_hourBehind.cls ≠ "java/lang/invoke/MethodHandle" ∧ yX1_hourBehind.cls ≠ "java/lang/invoke/VarHandle" ∧ (parseMethodDescriptor yX1_hourBehind.desc).map (fun d => d.parameters.length) = some 2 := by decide +kernel

set_option maxHeartbeats 4000000 in
set_option maxRecDepth 100000 in
theorem c_X1_hourBehind (l : Launch) (D : va_G) (cI cC cM : ClassId) (aq aqh aqw aqs aqu ap apk apq apr : Nat) (qgone : Int32) (qmet : Int32) (qstill : Int32) (qdone : Int32) (qhour : (Nat → Int32)) (qworn : (Nat → Int32)) (qsquare : (Nat → Int32)) (qunder : (Nat → Int32)) (psq : Int32) (ppa : Int32) (ppe : Int32) (pwo : Int32) (pkind : (Nat → Int32)) (pwsq : (Nat → Int32)) (pwhr : (Nat → Int32)) (u : Int32) (n : Int32) (rr : Int32) (hF : f_X1_hourBehind qgone qhour pkind u n = some rr) : CI l D cI cC cM yX1_hourBehind wsX1_hourBehind rm_X1_hourBehind [.ref aq, .int u, .int n] [(aq, .inr (1, [.ref ap, .int qgone, .int qmet, .int qstill, .int qdone, .ref aqh, .ref aqw, .ref aqs, .ref aqu])), (aqh, .inl (cI, 6, .inl qhour)), (aqw, .inl (cI, 6, .inl qworn)), (aqs, .inl (cI, 5, .inl qsquare)), (aqu, .inl (cI, 5, .inl qunder)), (ap, .inr (2, [.int psq, .int ppa, .int ppe, .int pwo, .ref apk, .ref apq, .ref apr])), (apk, .inl (cI, 6, .inl pkind)), (apq, .inl (cI, 6, .inl pwsq)), (apr, .inl (cI, 6, .inl pwhr))] [(aq, .inr (1, [.ref ap, .int qgone, .int qmet, .int qstill, .int qdone, .ref aqh, .ref aqw, .ref aqs, .ref aqu])), (aqh, .inl (cI, 6, .inl qhour)), (aqw, .inl (cI, 6, .inl qworn)), (aqs, .inl (cI, 5, .inl qsquare)), (aqu, .inl (cI, 5, .inl qunder)), (ap, .inr (2, [.int psq, .int ppa, .int ppe, .int pwo, .ref apk, .ref apq, .ref apr])), (apk, .inl (cI, 6, .inl pkind)), (apq, .inl (cI, 6, .inl pwsq)), (apr, .inl (cI, 6, .inl pwhr))] rr := by
  refine CI.of (cc := cX1_hourBehind) (nL := 3) (ret := (some .int)) (by decide) rfl (Nat.le_of_ble_eq_true rfl) ?_
  intro p e s m args below meth c A hC hP hD hS ls hl
  obtain ⟨hx, hb, hml, hown, hts, hr, hlk, hG, hA⟩ := id hC
  have hown : s.vm.findClass RX1 = some m.cls := hown
  have hK := hG.1
  have hl : lv_has ls 3 [(0, .ref aq), (1, .int u), (2, .int n)] := hl
  obtain ⟨Q, hQ⟩ : ∃ Q, Q = MQ below (QI D [(aq, .inr (1, [.ref ap, .int qgone, .int qmet, .int qstill, .int qdone, .ref aqh, .ref aqw, .ref aqs, .ref aqu])), (aqh, .inl (cI, 6, .inl qhour)), (aqw, .inl (cI, 6, .inl qworn)), (aqs, .inl (cI, 5, .inl qsquare)), (aqu, .inl (cI, 5, .inl qunder)), (ap, .inr (2, [.int psq, .int ppa, .int ppe, .int pwo, .ref apk, .ref apq, .ref apr])), (apk, .inl (cI, 6, .inl pkind)), (apq, .inl (cI, 6, .inl pwsq)), (apr, .inl (cI, 6, .inl pwhr))] rr A) args s 0 0 A := ⟨_, rfl⟩
  rw [← hQ]
  unfold f_X1_hourBehind at hF
  refine lv_aload_n hx hb dX1_hourBehind_0 rfl (lv_at hl 0 rfl) ?_
  refine lv_iload_n hx hb dX1_hourBehind_1 rfl (lv_at hl 1 rfl) ?_
  refine lv_aload_n hx hb dX1_hourBehind_2 rfl (lv_at hl 0 rfl) ?_
  refine lv_iload_n hx hb dX1_hourBehind_3 rfl (lv_at hl 1 rfl) ?_
  obtain ⟨r1, hb2, hF⟩ := op_bind hF
  refine xVr (As := [.int u]) (rest := [.int u, .ref aq]) hC hP hD hS [0, 1, 2, 3, 4, 5, 6, 7, 8] (c_X1_hourOf l D cI cC cM aq aqh aqw aqs aqu ap apk apq apr qgone qmet qstill qdone qhour qworn qsquare qunder psq ppa ppe pwo pkind pwsq pwhr u r1 hb2) (cwV 1 hts gX1_hourBehind_X1_hourOf rfl rfl rfl ⟨rfl, pd_X1_hourOf⟩ ⟨Nat.le_of_ble_eq_true rfl, Nat.le_of_ble_eq_true rfl⟩) rfl rfl 0 1 rfl rfl rfl rfl hl.1 rfl (Nat.le_of_ble_eq_true rfl) dX1_hourBehind_4 ⟨Nat.zero_le _, Nat.zero_le _⟩ (fun H locs hP hS => ?_)
  refine lv_iload_n hx hb dX1_hourBehind_7 rfl (lv_at hl 2 rfl) ?_
  obtain ⟨r3, hb4, hF⟩ := op_bind hF
  refine xVr (As := [.int u, .int r1, .int n]) (rest := []) hC hP hD hS [0, 1, 2, 3, 4, 5, 6, 7, 8] (c_X1_hourFrom l D cI cC cM aq aqh aqw aqs aqu ap apk apq apr qgone qmet qstill qdone qhour qworn qsquare qunder psq ppa ppe pwo pkind pwsq pwhr u r1 n r3 hb4) (cwV 3 hts gX1_hourBehind_X1_hourFrom rfl rfl rfl ⟨rfl, pd_X1_hourFrom⟩ ⟨Nat.le_of_ble_eq_true rfl, Nat.le_of_ble_eq_true rfl⟩) rfl rfl 0 1 rfl rfl rfl rfl hl.1 rfl (Nat.le_of_ble_eq_true rfl) dX1_hourBehind_8 ⟨Nat.zero_le _, Nat.zero_le _⟩ (fun H locs hP hS => ?_)
  cases hF
  rw [hQ]
  exact xri hC hP hS dX1_hourBehind_11

def f_X1_wornBehind (qgone : Int32) (qworn : (Nat → Int32)) (pkind : (Nat → Int32)) (u : Int32) (n : Int32) : Option Int32 := (Option.bind (f_X1_wornOf qworn u) fun r1 => (Option.bind (f_X2_kindOf pkind u) fun r3 => (Option.bind (f_X7_wearOf r3 qgone n) fun r5 => (some (if (r1 + r5) < (20 : Int32) then (r1 + r5) else (20 : Int32))))))

def rm_X1_wornBehind : Room := { frames := 2, cells := 0, slots := 0, locals := 43 }

theorem pd_X1_wornBehind : yX1_wornBehind.cls ≠ "java/lang/invoke/MethodHandle" ∧ yX1_wornBehind.cls ≠ "java/lang/invoke/VarHandle" ∧ (parseMethodDescriptor yX1_wornBehind.desc).map (fun d => d.parameters.length) = some 2 := by decide +kernel

set_option maxHeartbeats 4000000 in
set_option maxRecDepth 100000 in
theorem c_X1_wornBehind (l : Launch) (D : va_G) (cI cC cM : ClassId) (aq aqh aqw aqs aqu ap apk apq apr : Nat) (qgone : Int32) (qmet : Int32) (qstill : Int32) (qdone : Int32) (qhour : (Nat → Int32)) (qworn : (Nat → Int32)) (qsquare : (Nat → Int32)) (qunder : (Nat → Int32)) (psq : Int32) (ppa : Int32) (ppe : Int32) (pwo : Int32) (pkind : (Nat → Int32)) (pwsq : (Nat → Int32)) (pwhr : (Nat → Int32)) (u : Int32) (n : Int32) (rr : Int32) (hF : f_X1_wornBehind qgone qworn pkind u n = some rr) : CI l D cI cC cM yX1_wornBehind wsX1_wornBehind rm_X1_wornBehind [.ref aq, .int u, .int n] [(aq, .inr (1, [.ref ap, .int qgone, .int qmet, .int qstill, .int qdone, .ref aqh, .ref aqw, .ref aqs, .ref aqu])), (aqh, .inl (cI, 6, .inl qhour)), (aqw, .inl (cI, 6, .inl qworn)), (aqs, .inl (cI, 5, .inl qsquare)), (aqu, .inl (cI, 5, .inl qunder)), (ap, .inr (2, [.int psq, .int ppa, .int ppe, .int pwo, .ref apk, .ref apq, .ref apr])), (apk, .inl (cI, 6, .inl pkind)), (apq, .inl (cI, 6, .inl pwsq)), (apr, .inl (cI, 6, .inl pwhr))] [(aq, .inr (1, [.ref ap, .int qgone, .int qmet, .int qstill, .int qdone, .ref aqh, .ref aqw, .ref aqs, .ref aqu])), (aqh, .inl (cI, 6, .inl qhour)), (aqw, .inl (cI, 6, .inl qworn)), (aqs, .inl (cI, 5, .inl qsquare)), (aqu, .inl (cI, 5, .inl qunder)), (ap, .inr (2, [.int psq, .int ppa, .int ppe, .int pwo, .ref apk, .ref apq, .ref apr])), (apk, .inl (cI, 6, .inl pkind)), (apq, .inl (cI, 6, .inl pwsq)), (apr, .inl (cI, 6, .inl pwhr))] rr := by
  refine CI.of (cc := cX1_wornBehind) (nL := 3) (ret := (some .int)) (by decide) rfl (Nat.le_of_ble_eq_true rfl) ?_
  intro p e s m args below meth c A hC hP hD hS ls hl
  obtain ⟨hx, hb, hml, hown, hts, hr, hlk, hG, hA⟩ := id hC
  have hown : s.vm.findClass RX1 = some m.cls := hown
  have hK := hG.1
  have hl : lv_has ls 3 [(0, .ref aq), (1, .int u), (2, .int n)] := hl
  have k_f24 := hts (.fieldLink RX1 24 "ParasolHours$Moment" "plan" "LParasolHours$Plan;") (List.mem_of_getElem? (i := 1) rfl)
  have k_f28 := hts (.fieldLink RX1 28 "ParasolHours$Moment" "gone" "I") (List.mem_of_getElem? (i := 2) rfl)
  have k_st_wearOf := hts (.static yX7_wearOf) (List.mem_of_getElem? (i := 22) rfl)
  have k_in_X7 := hts (.initialized RX7) (List.mem_of_getElem? (i := 14) rfl)
  have k_ml159 := hts (.methodLink RX1 159 Lib.Math.min.name) (List.mem_of_getElem? (i := 3) rfl)
  have k_st_min := hts (.static Lib.Math.min.name) (List.mem_of_getElem? (i := 4) rfl)
  have k_in_math := hts (.initialized "java/lang/Math") (List.mem_of_getElem? (i := 5) rfl)
  have k_co_min := hts (.code Lib.Math.min.name Lib.Math.min.code 2 (some .int)) (List.mem_of_getElem? (i := 6) rfl)
  have iX1 : ∀ w ∈ wsX10, w ∈ wsX1_wornBehind := by decide +kernel
  obtain ⟨Q, hQ⟩ : ∃ Q, Q = MQ below (QI D [(aq, .inr (1, [.ref ap, .int qgone, .int qmet, .int qstill, .int qdone, .ref aqh, .ref aqw, .ref aqs, .ref aqu])), (aqh, .inl (cI, 6, .inl qhour)), (aqw, .inl (cI, 6, .inl qworn)), (aqs, .inl (cI, 5, .inl qsquare)), (aqu, .inl (cI, 5, .inl qunder)), (ap, .inr (2, [.int psq, .int ppa, .int ppe, .int pwo, .ref apk, .ref apq, .ref apr])), (apk, .inl (cI, 6, .inl pkind)), (apq, .inl (cI, 6, .inl pwsq)), (apr, .inl (cI, 6, .inl pwhr))] rr A) args s 0 0 A := ⟨_, rfl⟩
  rw [← hQ]
  unfold f_X1_wornBehind at hF
  refine lv_bipush (v := (20 : Int32)) hx hb dX1_wornBehind_0 (by decide) ?_
  refine lv_aload_n hx hb dX1_wornBehind_2 rfl (lv_at hl 0 rfl) ?_
  refine lv_iload_n hx hb dX1_wornBehind_3 rfl (lv_at hl 1 rfl) ?_
  obtain ⟨r1, hb2, hF⟩ := op_bind hF
  refine xVr (As := [.int u]) (rest := [.int (20 : Int32)]) hC hP hD hS [0, 1, 2, 3, 4, 5, 6, 7, 8] (c_X1_wornOf l D cI cC cM aq aqh aqw aqs aqu ap apk apq apr qgone qmet qstill qdone qhour qworn qsquare qunder psq ppa ppe pwo pkind pwsq pwhr u r1 hb2) (cwV 1 hts gX1_wornBehind_X1_wornOf rfl rfl rfl ⟨rfl, pd_X1_wornOf⟩ ⟨Nat.le_of_ble_eq_true rfl, Nat.le_of_ble_eq_true rfl⟩) rfl rfl 0 1 rfl rfl rfl rfl hl.1 rfl (Nat.le_of_ble_eq_true rfl) dX1_wornBehind_4 ⟨Nat.zero_le _, Nat.zero_le _⟩ (fun H locs hP hS => ?_)
  refine lv_aload_n hx hb dX1_wornBehind_7 rfl (lv_at hl 0 rfl) ?_
  refine va_get (D := D) (ci := 1) (v := .ref ap) (C := RX1) (T := TX1) (N := 9) hx hb hts iX1 hown hK hP 0 rfl rfl 0 (by decide) k_f24 (fun _ h9 => h9) rfl dX1_wornBehind_8 ?_
  refine lv_iload_n hx hb dX1_wornBehind_11 rfl (lv_at hl 1 rfl) ?_
  obtain ⟨r3, hb4, hF⟩ := op_bind hF
  refine xVr (As := [.int u]) (rest := [.int r1, .int (20 : Int32)]) hC hP hD hS [5, 6, 7, 8] (c_X2_kindOf l D cI cC cM ap apk apq apr psq ppa ppe pwo pkind pwsq pwhr u r3 hb4) (cwV 1 hts gX1_wornBehind_X2_kindOf rfl rfl rfl ⟨rfl, pd_X2_kindOf⟩ ⟨Nat.le_of_ble_eq_true rfl, Nat.le_of_ble_eq_true rfl⟩) rfl rfl 5 2 rfl rfl rfl rfl hl.1 rfl (Nat.le_of_ble_eq_true rfl) dX1_wornBehind_12 ⟨Nat.zero_le _, Nat.zero_le _⟩ (fun H locs hP hS => ?_)
  refine lv_aload_n hx hb dX1_wornBehind_15 rfl (lv_at hl 0 rfl) ?_
  refine va_get (D := D) (ci := 1) (v := .int qgone) (C := RX1) (T := TX1) (N := 9) hx hb hts iX1 hown hK hP 0 rfl rfl 1 (by decide) k_f28 (fun _ h9 => h9) rfl dX1_wornBehind_16 ?_
  refine lv_iload_n hx hb dX1_wornBehind_19 rfl (lv_at hl 2 rfl) ?_
  obtain ⟨r5, hb6, hF⟩ := op_bind hF
  refine xNr (As := [.int r3, .int qgone, .int n]) (rest := [.int r1, .int (20 : Int32)]) hC hP hD hS [] (c_X7_wearOf l D cI cC cM r3 qgone n r5 hb6) ⟨va_cnB 3 hts gX1_wornBehind_X7_wearOf_n156 rfl rfl rfl (hG.nw 17 rfl) k_in_X7 pd_X7_wearOf ⟨Nat.le_of_ble_eq_true rfl, Nat.le_of_ble_eq_true rfl⟩, k_st_wearOf, trivial⟩ rfl rfl rfl hl.1 rfl (Nat.le_of_ble_eq_true rfl) dX1_wornBehind_20 ⟨Nat.zero_le _, Nat.zero_le _⟩ (fun H locs hP hS => ?_)
  refine lv_iadd hx hb dX1_wornBehind_23 ?_
  refine va_mmin (rest := []) hx hb (by rw [hml]; exact hl.1.symm) hown k_ml159 k_st_min k_in_math k_co_min (Nat.le_of_ble_eq_true rfl) (Nat.le_of_ble_eq_true rfl) (Nat.zero_le _) (Nat.zero_le _) dX1_wornBehind_24 ?_
  cases hF
  rw [hQ]
  exact xri hC hP hS dX1_wornBehind_27

def f_X1_doWorks_L2 (ppe : Int32) (qstill : Int32) (qunder : (Nat → Int32)) (qhour : (Nat → Int32)) (qworn : (Nat → Int32)) (qsquare : (Nat → Int32)) (pwo : Int32) (pwsq : (Nat → Int32)) (pwhr : (Nat → Int32)) (k2 : Int32 → Int32 → Option Int32) : Nat → Int32 → Int32 → Option Int32
  | 0, _, _ => none
  | nf2 + 1, v1, qdone_2 => (if ppe ≤ v1 then (k2 v1 qdone_2) else (Option.bind (f_X1_isStill qstill v1) fun r4 => (if r4 = 0 then (Option.bind (f_X1_parasolOf qunder v1) fun r7 => (Option.bind (f_X1_worksOf qdone_2 qhour qworn qsquare pwo pwsq pwhr v1 r7) fun r9 => (f_X1_doWorks_L2 ppe qstill qunder qhour qworn qsquare pwo pwsq pwhr k2 nf2 (v1 + (1 : Int32)) (qdone_2 ||| r9)))) else (f_X1_doWorks_L2 ppe qstill qunder qhour qworn qsquare pwo pwsq pwhr k2 nf2 (v1 + (1 : Int32)) qdone_2))))
theorem f_X1_doWorks_L2_0 (ppe : Int32) (qstill : Int32) (qunder : (Nat → Int32)) (qhour : (Nat → Int32)) (qworn : (Nat → Int32)) (qsquare : (Nat → Int32)) (pwo : Int32) (pwsq : (Nat → Int32)) (pwhr : (Nat → Int32)) (k2 : Int32 → Int32 → Option Int32) (v1 : Int32) (qdone_2 : Int32) : f_X1_doWorks_L2 ppe qstill qunder qhour qworn qsquare pwo pwsq pwhr k2 0 v1 qdone_2 = none := rfl
theorem f_X1_doWorks_L2_s (ppe : Int32) (qstill : Int32) (qunder : (Nat → Int32)) (qhour : (Nat → Int32)) (qworn : (Nat → Int32)) (qsquare : (Nat → Int32)) (pwo : Int32) (pwsq : (Nat → Int32)) (pwhr : (Nat → Int32)) (k2 : Int32 → Int32 → Option Int32) (nf2 : Nat) (v1 : Int32) (qdone_2 : Int32) : f_X1_doWorks_L2 ppe qstill qunder qhour qworn qsquare pwo pwsq pwhr k2 (nf2 + 1) v1 qdone_2 = (if ppe ≤ v1 then (k2 v1 qdone_2) else (Option.bind (f_X1_isStill qstill v1) fun r4 => (if r4 = 0 then (Option.bind (f_X1_parasolOf qunder v1) fun r7 => (Option.bind (f_X1_worksOf qdone_2 qhour qworn qsquare pwo pwsq pwhr v1 r7) fun r9 => (f_X1_doWorks_L2 ppe qstill qunder qhour qworn qsquare pwo pwsq pwhr k2 nf2 (v1 + (1 : Int32)) (qdone_2 ||| r9)))) else (f_X1_doWorks_L2 ppe qstill qunder qhour qworn qsquare pwo pwsq pwhr k2 nf2 (v1 + (1 : Int32)) qdone_2)))) := rfl

def f_X1_doWorks (qstill : Int32) (qdone : Int32) (qhour : (Nat → Int32)) (qworn : (Nat → Int32)) (qsquare : (Nat → Int32)) (qunder : (Nat → Int32)) (ppe : Int32) (pwo : Int32) (pwsq : (Nat → Int32)) (pwhr : (Nat → Int32)) : Option Int32 := (f_X1_doWorks_L2 ppe qstill qunder qhour qworn qsquare pwo pwsq pwhr (fun (v1 : Int32) (qdone_2 : Int32) => (some qdone_2)) 20000 (0 : Int32) qdone)

def rm_X1_doWorks : Room := { frames := 4, cells := 0, slots := 0, locals := 90 }

theorem pd_X1_doWorks : yX1_doWorks.cls ≠ "java/lang/invoke/MethodHandle" ∧ yX1_doWorks.cls ≠ "java/lang/invoke/VarHandle" ∧ (parseMethodDescriptor yX1_doWorks.desc).map (fun d => d.parameters.length) = some 0 := by decide +kernel

set_option maxHeartbeats 4000000 in
set_option maxRecDepth 100000 in
theorem c_X1_doWorks (l : Launch) (D : va_G) (cI cC cM : ClassId) (aq aqh aqw aqs aqu ap apk apq apr : Nat) (qgone : Int32) (qmet : Int32) (qstill : Int32) (qdone : Int32) (qhour : (Nat → Int32)) (qworn : (Nat → Int32)) (qsquare : (Nat → Int32)) (qunder : (Nat → Int32)) (psq : Int32) (ppa : Int32) (ppe : Int32) (pwo : Int32) (pkind : (Nat → Int32)) (pwsq : (Nat → Int32)) (pwhr : (Nat → Int32)) (qdone' : Int32) (hF : f_X1_doWorks qstill qdone qhour qworn qsquare qunder ppe pwo pwsq pwhr = some qdone') : CV l D cI cC cM yX1_doWorks wsX1_doWorks rm_X1_doWorks [.ref aq] [(aq, .inr (1, [.ref ap, .int qgone, .int qmet, .int qstill, .int qdone, .ref aqh, .ref aqw, .ref aqs, .ref aqu])), (aqh, .inl (cI, 6, .inl qhour)), (aqw, .inl (cI, 6, .inl qworn)), (aqs, .inl (cI, 5, .inl qsquare)), (aqu, .inl (cI, 5, .inl qunder)), (ap, .inr (2, [.int psq, .int ppa, .int ppe, .int pwo, .ref apk, .ref apq, .ref apr])), (apk, .inl (cI, 6, .inl pkind)), (apq, .inl (cI, 6, .inl pwsq)), (apr, .inl (cI, 6, .inl pwhr))] [(aq, .inr (1, [.ref ap, .int qgone, .int qmet, .int qstill, .int qdone', .ref aqh, .ref aqw, .ref aqs, .ref aqu])), (aqh, .inl (cI, 6, .inl qhour)), (aqw, .inl (cI, 6, .inl qworn)), (aqs, .inl (cI, 5, .inl qsquare)), (aqu, .inl (cI, 5, .inl qunder)), (ap, .inr (2, [.int psq, .int ppa, .int ppe, .int pwo, .ref apk, .ref apq, .ref apr])), (apk, .inl (cI, 6, .inl pkind)), (apq, .inl (cI, 6, .inl pwsq)), (apr, .inl (cI, 6, .inl pwhr))] := by
  refine CV.of (cc := cX1_doWorks) (nL := 2) (ret := none) (by decide) rfl (Nat.le_of_ble_eq_true rfl) ?_
  intro p e s m args below meth c A hC hP hD hS ls hl
  obtain ⟨hx, hb, hml, hown, hts, hr, hlk, hG, hA⟩ := id hC
  have hown : s.vm.findClass RX1 = some m.cls := hown
  have hK := hG.1
  have hl : lv_has ls 2 [(0, .ref aq)] := hl
  have k_f24 := hts (.fieldLink RX1 24 "ParasolHours$Moment" "plan" "LParasolHours$Plan;") (List.mem_of_getElem? (i := 1) rfl)
  have k_f53 := hts (.fieldLink RX1 53 "ParasolHours$Plan" "persons" "I") (List.mem_of_getElem? (i := 2) rfl)
  have k_f38 := hts (.fieldLink RX1 38 "ParasolHours$Moment" "doneBits" "I") (List.mem_of_getElem? (i := 3) rfl)
  have iX1 : ∀ w ∈ wsX10, w ∈ wsX1_doWorks := by decide +kernel
  have iX2 : ∀ w ∈ wsX20, w ∈ wsX1_doWorks := by decide +kernel
  obtain ⟨Q, hQ⟩ : ∃ Q, Q = MQ below (QV D [(aq, .inr (1, [.ref ap, .int qgone, .int qmet, .int qstill, .int qdone', .ref aqh, .ref aqw, .ref aqs, .ref aqu])), (aqh, .inl (cI, 6, .inl qhour)), (aqw, .inl (cI, 6, .inl qworn)), (aqs, .inl (cI, 5, .inl qsquare)), (aqu, .inl (cI, 5, .inl qunder)), (ap, .inr (2, [.int psq, .int ppa, .int ppe, .int pwo, .ref apk, .ref apq, .ref apr])), (apk, .inl (cI, 6, .inl pkind)), (apq, .inl (cI, 6, .inl pwsq)), (apr, .inl (cI, 6, .inl pwhr))] A) args s 0 0 A := ⟨_, rfl⟩
  rw [← hQ]
  unfold f_X1_doWorks at hF
  refine lv_iconst (v := (0 : Int32)) hx hb dX1_doWorks_0 (by decide) ?_
  refine lv_istore_n (lv' := [(1, .int (0 : Int32)), (0, .ref aq)]) hx hb dX1_doWorks_1 rfl hl (by decide) rfl (fun ls hl => ?_)
  have hL2 : ∀ (k2 : Int32 → Int32 → Option Int32), (∀ (v1 : Int32) (qdone_2 : Int32) (H : Heap) (locs : List Loc), va_P D vwCl [(aq, .inr (1, [.ref ap, .int qgone, .int qmet, .int qstill, .int qdone_2, .ref aqh, .ref aqw, .ref aqs, .ref aqu])), (aqh, .inl (cI, 6, .inl qhour)), (aqw, .inl (cI, 6, .inl qworn)), (aqs, .inl (cI, 5, .inl qsquare)), (aqu, .inl (cI, 5, .inl qunder)), (ap, .inr (2, [.int psq, .int ppa, .int ppe, .int pwo, .ref apk, .ref apq, .ref apr])), (apk, .inl (cI, 6, .inl pkind)), (apq, .inl (cI, 6, .inl pwsq)), (apr, .inl (cI, 6, .inl pwhr))] H → va_D A [(aq, .inr (1, [.ref ap, .int qgone, .int qmet, .int qstill, .int qdone_2, .ref aqh, .ref aqw, .ref aqs, .ref aqu])), (aqh, .inl (cI, 6, .inl qhour)), (aqw, .inl (cI, 6, .inl qworn)), (aqs, .inl (cI, 5, .inl qsquare)), (aqu, .inl (cI, 5, .inl qunder)), (ap, .inr (2, [.int psq, .int ppa, .int ppe, .int pwo, .ref apk, .ref apq, .ref apr])), (apk, .inl (cI, 6, .inl pkind)), (apq, .inl (cI, 6, .inl pwsq)), (apr, .inl (cI, 6, .inl pwhr))] → va_S A s.heap H locs → ∀ ls : Array Slot, lv_has ls 2 [] → k2 v1 qdone_2 = some qdone' → W p l e rm_X1_doWorks s m args below meth c H locs 0 0 Q (F0 m 46 ls [])) → ∀ (nf2 : Nat) (v1 : Int32) (qdone_2 : Int32) (H : Heap) (locs : List Loc), va_P D vwCl [(aq, .inr (1, [.ref ap, .int qgone, .int qmet, .int qstill, .int qdone_2, .ref aqh, .ref aqw, .ref aqs, .ref aqu])), (aqh, .inl (cI, 6, .inl qhour)), (aqw, .inl (cI, 6, .inl qworn)), (aqs, .inl (cI, 5, .inl qsquare)), (aqu, .inl (cI, 5, .inl qunder)), (ap, .inr (2, [.int psq, .int ppa, .int ppe, .int pwo, .ref apk, .ref apq, .ref apr])), (apk, .inl (cI, 6, .inl pkind)), (apq, .inl (cI, 6, .inl pwsq)), (apr, .inl (cI, 6, .inl pwhr))] H → va_D A [(aq, .inr (1, [.ref ap, .int qgone, .int qmet, .int qstill, .int qdone_2, .ref aqh, .ref aqw, .ref aqs, .ref aqu])), (aqh, .inl (cI, 6, .inl qhour)), (aqw, .inl (cI, 6, .inl qworn)), (aqs, .inl (cI, 5, .inl qsquare)), (aqu, .inl (cI, 5, .inl qunder)), (ap, .inr (2, [.int psq, .int ppa, .int ppe, .int pwo, .ref apk, .ref apq, .ref apr])), (apk, .inl (cI, 6, .inl pkind)), (apq, .inl (cI, 6, .inl pwsq)), (apr, .inl (cI, 6, .inl pwhr))] → va_S A s.heap H locs → ∀ ls : Array Slot, lv_has ls 2 [(1, .int v1), (0, .ref aq)] → f_X1_doWorks_L2 ppe qstill qunder qhour qworn qsquare pwo pwsq pwhr k2 nf2 v1 qdone_2 = some qdone' → W p l e rm_X1_doWorks s m args below meth c H locs 0 0 Q (F0 m 2 ls []) := by
    intro k2 hk2 nf2
    induction nf2 with
    | zero =>
      intro v1 qdone_2 H locs hP hD hS ls hl hF
      rw [f_X1_doWorks_L2_0] at hF
      cases hF
    | succ nf2 ih2 =>
      intro v1 qdone_2 H locs hP hD hS ls hl hF
      rw [f_X1_doWorks_L2_s] at hF
      refine lv_iload_n hx hb dX1_doWorks_2 rfl (lv_at hl 0 rfl) ?_
      refine lv_aload_n hx hb dX1_doWorks_3 rfl (lv_at hl 1 rfl) ?_
      refine va_get (D := D) (ci := 1) (v := .ref ap) (C := RX1) (T := TX1) (N := 9) hx hb hts iX1 hown hK hP 0 rfl rfl 0 (by decide) k_f24 (fun _ h9 => h9) rfl dX1_doWorks_4 ?_
      refine va_get (D := D) (ci := 2) (v := .int ppe) (C := RX2) (T := TX2) (N := 7) hx hb hts iX2 hown hK hP 5 rfl rfl 2 (by decide) k_f53 (fun _ h9 => h9) rfl dX1_doWorks_7 ?_
      refine lv_icmp_ge (tgt := 46) hx hb dX1_doWorks_10 (by decide) (fun c3 => ?_) (fun c3 => ?_)
      · have hF := op_pos c3 hF
        exact hk2 v1 qdone_2 _ _ hP hD hS _ (lv_sub hl [] rfl) hF
      · have hF := op_neg c3 hF
        refine lv_aload_n hx hb dX1_doWorks_13 rfl (lv_at hl 1 rfl) ?_
        refine lv_iload_n hx hb dX1_doWorks_14 rfl (lv_at hl 0 rfl) ?_
        obtain ⟨r4, hb5, hF⟩ := op_bind hF
        refine xVr (As := [.int v1]) (rest := []) hC hP hD hS [0, 1, 2, 3, 4, 5, 6, 7, 8] (c_X1_isStill l D cI cC cM aq aqh aqw aqs aqu ap apk apq apr qgone qmet qstill qdone_2 qhour qworn qsquare qunder psq ppa ppe pwo pkind pwsq pwhr v1 r4 hb5) (cwV 1 hts gX1_doWorks_X1_isStill rfl rfl rfl ⟨rfl, pd_X1_isStill⟩ ⟨Nat.le_of_ble_eq_true rfl, Nat.le_of_ble_eq_true rfl⟩) rfl rfl 0 1 rfl rfl rfl rfl hl.1 rfl (Nat.le_of_ble_eq_true rfl) dX1_doWorks_15 ⟨Nat.zero_le _, Nat.zero_le _⟩ (fun H locs hP hS => ?_)
        refine lv_if_ne (tgt := 40) hx hb dX1_doWorks_18 (by decide) (fun c6 => ?_) (fun c6 => ?_)
        · have hF := op_neg c6 hF
          refine lv_iinc (v := (v1 + (1 : Int32))) (lv' := [(1, .int (v1 + (1 : Int32))), (0, .ref aq)]) hx hb dX1_doWorks_40 hl (k := 0) rfl (by first | rfl | decide) (by decide) rfl (fun ls hl => ?_)
          refine lv_goto (tgt := 2) hx hb dX1_doWorks_43 (by decide) ?_
          exact ih2 (v1 + (1 : Int32)) qdone_2 _ _ hP hD hS _ (lv_sub hl [0, 1] rfl) hF
        · have hF := op_pos c6 hF
          refine lv_aload_n hx hb dX1_doWorks_21 rfl (lv_at hl 1 rfl) ?_
          refine lv_dup hx hb dX1_doWorks_22 rfl ?_
          refine va_get (D := D) (ci := 1) (v := .int qdone_2) (C := RX1) (T := TX1) (N := 9) hx hb hts iX1 hown hK hP 0 rfl rfl 4 (by decide) k_f38 (fun _ h9 => h9) rfl dX1_doWorks_23 ?_
          refine lv_aload_n hx hb dX1_doWorks_26 rfl (lv_at hl 1 rfl) ?_
          refine lv_iload_n hx hb dX1_doWorks_27 rfl (lv_at hl 0 rfl) ?_
          refine lv_aload_n hx hb dX1_doWorks_28 rfl (lv_at hl 1 rfl) ?_
          refine lv_iload_n hx hb dX1_doWorks_29 rfl (lv_at hl 0 rfl) ?_
          obtain ⟨r7, hb8, hF⟩ := op_bind hF
          refine xVr (As := [.int v1]) (rest := [.int v1, .ref aq, .int qdone_2, .ref aq]) hC hP hD hS [0, 1, 2, 3, 4, 5, 6, 7, 8] (c_X1_parasolOf l D cI cC cM aq aqh aqw aqs aqu ap apk apq apr qgone qmet qstill qdone_2 qhour qworn qsquare qunder psq ppa ppe pwo pkind pwsq pwhr v1 r7 hb8) (cwV 1 hts gX1_doWorks_X1_parasolOf rfl rfl rfl ⟨rfl, pd_X1_parasolOf⟩ ⟨Nat.le_of_ble_eq_true rfl, Nat.le_of_ble_eq_true rfl⟩) rfl rfl 0 1 rfl rfl rfl rfl hl.1 rfl (Nat.le_of_ble_eq_true rfl) dX1_doWorks_30 ⟨Nat.zero_le _, Nat.zero_le _⟩ (fun H locs hP hS => ?_)
          obtain ⟨r9, hb10, hF⟩ := op_bind hF
          refine xVr (As := [.int v1, .int r7]) (rest := [.int qdone_2, .ref aq]) hC hP hD hS [0, 1, 2, 3, 4, 5, 6, 7, 8] (c_X1_worksOf l D cI cC cM aq aqh aqw aqs aqu ap apk apq apr qgone qmet qstill qdone_2 qhour qworn qsquare qunder psq ppa ppe pwo pkind pwsq pwhr v1 r7 r9 hb10) (cwV 2 hts gX1_doWorks_X1_worksOf rfl rfl rfl ⟨rfl, pd_X1_worksOf⟩ ⟨Nat.le_of_ble_eq_true rfl, Nat.le_of_ble_eq_true rfl⟩) rfl rfl 0 1 rfl rfl rfl rfl hl.1 rfl (Nat.le_of_ble_eq_true rfl) dX1_doWorks_33 ⟨Nat.zero_le _, Nat.zero_le _⟩ (fun H locs hP hS => ?_)
          refine lv_ior hx hb dX1_doWorks_36 ?_
          refine va_put (D := D) (ci := 1) (v := .int (qdone_2 ||| r9)) (ty := .int) (C := RX1) (T := TX1) (N := 9) hx hb hts iX1 tyX1 tyX1_ok nmX1 hown hK hP hD hS 0 rfl rfl 4 (by decide) k_f38 (fun _ h9 => h9) rfl (by decide +kernel) rfl rfl (Nat.le_of_ble_eq_true rfl) dX1_doWorks_37 (fun H locs hP hD hS => ?_)
          have hP : va_P D vwCl [(aq, .inr (1, [.ref ap, .int qgone, .int qmet, .int qstill, .int (qdone_2 ||| r9), .ref aqh, .ref aqw, .ref aqs, .ref aqu])), (aqh, .inl (cI, 6, .inl qhour)), (aqw, .inl (cI, 6, .inl qworn)), (aqs, .inl (cI, 5, .inl qsquare)), (aqu, .inl (cI, 5, .inl qunder)), (ap, .inr (2, [.int psq, .int ppa, .int ppe, .int pwo, .ref apk, .ref apq, .ref apr])), (apk, .inl (cI, 6, .inl pkind)), (apq, .inl (cI, 6, .inl pwsq)), (apr, .inl (cI, 6, .inl pwhr))] H := hP
          have hD : va_D A [(aq, .inr (1, [.ref ap, .int qgone, .int qmet, .int qstill, .int (qdone_2 ||| r9), .ref aqh, .ref aqw, .ref aqs, .ref aqu])), (aqh, .inl (cI, 6, .inl qhour)), (aqw, .inl (cI, 6, .inl qworn)), (aqs, .inl (cI, 5, .inl qsquare)), (aqu, .inl (cI, 5, .inl qunder)), (ap, .inr (2, [.int psq, .int ppa, .int ppe, .int pwo, .ref apk, .ref apq, .ref apr])), (apk, .inl (cI, 6, .inl pkind)), (apq, .inl (cI, 6, .inl pwsq)), (apr, .inl (cI, 6, .inl pwhr))] := hD
          refine lv_iinc (v := (v1 + (1 : Int32))) (lv' := [(1, .int (v1 + (1 : Int32))), (0, .ref aq)]) hx hb dX1_doWorks_40 hl (k := 0) rfl (by first | rfl | decide) (by decide) rfl (fun ls hl => ?_)
          refine lv_goto (tgt := 2) hx hb dX1_doWorks_43 (by decide) ?_
          exact ih2 (v1 + (1 : Int32)) (qdone_2 ||| r9) _ _ hP hD hS _ (lv_sub hl [0, 1] rfl) hF
  refine hL2 _ (fun v1 qdone_2 H locs hP hD hS ls hl hF => ?_) 20000 (0 : Int32) qdone _ _ hP hD hS _ (lv_sub hl [0, 1] rfl) hF
  cases hF
  rw [hQ]
  exact xrv hC hP hS dX1_doWorks_46

def f_X1_appointments_L19 (ppa : Int32) (qhour : (Nat → Int32)) (v2 : Int32) (qsquare : (Nat → Int32)) (qunder : (Nat → Int32)) (ppe : Int32) (k19 : Int32 → Int32 → Option Int32) : Nat → Int32 → Int32 → Option Int32
  | 0, _, _ => none
  | nf19 + 1, v4, v5 => (if ppa ≤ v5 then (k19 v4 v5) else (Option.bind (f_X1_hourOf qhour v2) fun r7 => (Option.bind (f_X1_hourOf qhour v5) fun r9 => (if r7 = r9 then (Option.bind (f_X1_squareOfParasol qsquare qunder ppe v2) fun r12 => (Option.bind (f_X1_squareOfParasol qsquare qunder ppe v5) fun r14 => (if r12 = r14 then (Option.bind (f_X1_isInStand qunder ppe v2) fun r17 => (if r17 = 0 then (Option.bind (f_X1_isInStand qunder ppe v5) fun r20 => (if r20 = 0 then (f_X1_appointments_L19 ppa qhour v2 qsquare qunder ppe k19 nf19 (v4 + (1 : Int32)) (v5 + (1 : Int32))) else (f_X1_appointments_L19 ppa qhour v2 qsquare qunder ppe k19 nf19 v4 (v5 + (1 : Int32))))) else (f_X1_appointments_L19 ppa qhour v2 qsquare qunder ppe k19 nf19 v4 (v5 + (1 : Int32))))) else (f_X1_appointments_L19 ppa qhour v2 qsquare qunder ppe k19 nf19 v4 (v5 + (1 : Int32)))))) else (f_X1_appointments_L19 ppa qhour v2 qsquare qunder ppe k19 nf19 v4 (v5 + (1 : Int32)))))))
theorem f_X1_appointments_L19_0 (ppa : Int32) (qhour : (Nat → Int32)) (v2 : Int32) (qsquare : (Nat → Int32)) (qunder : (Nat → Int32)) (ppe : Int32) (k19 : Int32 → Int32 → Option Int32) (v4 : Int32) (v5 : Int32) : f_X1_appointments_L19 ppa qhour v2 qsquare qunder ppe k19 0 v4 v5 = none := rfl
theorem f_X1_appointments_L19_s (ppa : Int32) (qhour : (Nat → Int32)) (v2 : Int32) (qsquare : (Nat → Int32)) (qunder : (Nat → Int32)) (ppe : Int32) (k19 : Int32 → Int32 → Option Int32) (nf19 : Nat) (v4 : Int32) (v5 : Int32) : f_X1_appointments_L19 ppa qhour v2 qsquare qunder ppe k19 (nf19 + 1) v4 v5 = (if ppa ≤ v5 then (k19 v4 v5) else (Option.bind (f_X1_hourOf qhour v2) fun r7 => (Option.bind (f_X1_hourOf qhour v5) fun r9 => (if r7 = r9 then (Option.bind (f_X1_squareOfParasol qsquare qunder ppe v2) fun r12 => (Option.bind (f_X1_squareOfParasol qsquare qunder ppe v5) fun r14 => (if r12 = r14 then (Option.bind (f_X1_isInStand qunder ppe v2) fun r17 => (if r17 = 0 then (Option.bind (f_X1_isInStand qunder ppe v5) fun r20 => (if r20 = 0 then (f_X1_appointments_L19 ppa qhour v2 qsquare qunder ppe k19 nf19 (v4 + (1 : Int32)) (v5 + (1 : Int32))) else (f_X1_appointments_L19 ppa qhour v2 qsquare qunder ppe k19 nf19 v4 (v5 + (1 : Int32))))) else (f_X1_appointments_L19 ppa qhour v2 qsquare qunder ppe k19 nf19 v4 (v5 + (1 : Int32))))) else (f_X1_appointments_L19 ppa qhour v2 qsquare qunder ppe k19 nf19 v4 (v5 + (1 : Int32)))))) else (f_X1_appointments_L19 ppa qhour v2 qsquare qunder ppe k19 nf19 v4 (v5 + (1 : Int32))))))) := rfl

def f_X1_appointments_L4 (ppa : Int32) (qhour : (Nat → Int32)) (qsquare : (Nat → Int32)) (qunder : (Nat → Int32)) (ppe : Int32) (k4 : Int32 → Int32 → Option Int32) : Nat → Int32 → Int32 → Option Int32
  | 0, _, _ => none
  | nf4 + 1, v1, v2 => (if ppa ≤ v2 then (k4 v1 v2) else (f_X1_appointments_L19 ppa qhour v2 qsquare qunder ppe (fun (v4 : Int32) (v5 : Int32) => (f_X1_appointments_L4 ppa qhour qsquare qunder ppe k4 nf4 v4 (v2 + (1 : Int32)))) 20000 v1 (v2 + (1 : Int32))))
theorem f_X1_appointments_L4_0 (ppa : Int32) (qhour : (Nat → Int32)) (qsquare : (Nat → Int32)) (qunder : (Nat → Int32)) (ppe : Int32) (k4 : Int32 → Int32 → Option Int32) (v1 : Int32) (v2 : Int32) : f_X1_appointments_L4 ppa qhour qsquare qunder ppe k4 0 v1 v2 = none := rfl
theorem f_X1_appointments_L4_s (ppa : Int32) (qhour : (Nat → Int32)) (qsquare : (Nat → Int32)) (qunder : (Nat → Int32)) (ppe : Int32) (k4 : Int32 → Int32 → Option Int32) (nf4 : Nat) (v1 : Int32) (v2 : Int32) : f_X1_appointments_L4 ppa qhour qsquare qunder ppe k4 (nf4 + 1) v1 v2 = (if ppa ≤ v2 then (k4 v1 v2) else (f_X1_appointments_L19 ppa qhour v2 qsquare qunder ppe (fun (v4 : Int32) (v5 : Int32) => (f_X1_appointments_L4 ppa qhour qsquare qunder ppe k4 nf4 v4 (v2 + (1 : Int32)))) 20000 v1 (v2 + (1 : Int32)))) := rfl

def f_X1_appointments (qhour : (Nat → Int32)) (qsquare : (Nat → Int32)) (qunder : (Nat → Int32)) (ppa : Int32) (ppe : Int32) : Option Int32 := (f_X1_appointments_L4 ppa qhour qsquare qunder ppe (fun (v1 : Int32) (v2 : Int32) => (some v1)) 20000 (0 : Int32) (0 : Int32))

def rm_X1_appointments : Room := { frames := 4, cells := 0, slots := 0, locals := 86 }

theorem pd_X1_appointments : yX1_appointments.cls ≠ "java/lang/invoke/MethodHandle" ∧ yX1_appointments.cls ≠ "java/lang/invoke/VarHandle" ∧ (parseMethodDescriptor yX1_appointments.desc).map (fun d => d.parameters.length) = some 0 := by decide +kernel

set_option maxHeartbeats 4000000 in
set_option maxRecDepth 100000 in
theorem c_X1_appointments (l : Launch) (D : va_G) (cI cC cM : ClassId) (aq aqh aqw aqs aqu ap apk apq apr : Nat) (qgone : Int32) (qmet : Int32) (qstill : Int32) (qdone : Int32) (qhour : (Nat → Int32)) (qworn : (Nat → Int32)) (qsquare : (Nat → Int32)) (qunder : (Nat → Int32)) (psq : Int32) (ppa : Int32) (ppe : Int32) (pwo : Int32) (pkind : (Nat → Int32)) (pwsq : (Nat → Int32)) (pwhr : (Nat → Int32)) (rr : Int32) (hF : f_X1_appointments qhour qsquare qunder ppa ppe = some rr) : CI l D cI cC cM yX1_appointments wsX1_appointments rm_X1_appointments [.ref aq] [(aq, .inr (1, [.ref ap, .int qgone, .int qmet, .int qstill, .int qdone, .ref aqh, .ref aqw, .ref aqs, .ref aqu])), (aqh, .inl (cI, 6, .inl qhour)), (aqw, .inl (cI, 6, .inl qworn)), (aqs, .inl (cI, 5, .inl qsquare)), (aqu, .inl (cI, 5, .inl qunder)), (ap, .inr (2, [.int psq, .int ppa, .int ppe, .int pwo, .ref apk, .ref apq, .ref apr])), (apk, .inl (cI, 6, .inl pkind)), (apq, .inl (cI, 6, .inl pwsq)), (apr, .inl (cI, 6, .inl pwhr))] [(aq, .inr (1, [.ref ap, .int qgone, .int qmet, .int qstill, .int qdone, .ref aqh, .ref aqw, .ref aqs, .ref aqu])), (aqh, .inl (cI, 6, .inl qhour)), (aqw, .inl (cI, 6, .inl qworn)), (aqs, .inl (cI, 5, .inl qsquare)), (aqu, .inl (cI, 5, .inl qunder)), (ap, .inr (2, [.int psq, .int ppa, .int ppe, .int pwo, .ref apk, .ref apq, .ref apr])), (apk, .inl (cI, 6, .inl pkind)), (apq, .inl (cI, 6, .inl pwsq)), (apr, .inl (cI, 6, .inl pwhr))] rr := by
  refine CI.of (cc := cX1_appointments) (nL := 4) (ret := (some .int)) (by decide) rfl (Nat.le_of_ble_eq_true rfl) ?_
  intro p e s m args below meth c A hC hP hD hS ls hl
  obtain ⟨hx, hb, hml, hown, hts, hr, hlk, hG, hA⟩ := id hC
  have hown : s.vm.findClass RX1 = some m.cls := hown
  have hK := hG.1
  have hl : lv_has ls 4 [(0, .ref aq)] := hl
  have k_f24 := hts (.fieldLink RX1 24 "ParasolHours$Moment" "plan" "LParasolHours$Plan;") (List.mem_of_getElem? (i := 1) rfl)
  have k_f65 := hts (.fieldLink RX1 65 "ParasolHours$Plan" "parasols" "I") (List.mem_of_getElem? (i := 2) rfl)
  have iX1 : ∀ w ∈ wsX10, w ∈ wsX1_appointments := by decide +kernel
  have iX2 : ∀ w ∈ wsX20, w ∈ wsX1_appointments := by decide +kernel
  obtain ⟨Q, hQ⟩ : ∃ Q, Q = MQ below (QI D [(aq, .inr (1, [.ref ap, .int qgone, .int qmet, .int qstill, .int qdone, .ref aqh, .ref aqw, .ref aqs, .ref aqu])), (aqh, .inl (cI, 6, .inl qhour)), (aqw, .inl (cI, 6, .inl qworn)), (aqs, .inl (cI, 5, .inl qsquare)), (aqu, .inl (cI, 5, .inl qunder)), (ap, .inr (2, [.int psq, .int ppa, .int ppe, .int pwo, .ref apk, .ref apq, .ref apr])), (apk, .inl (cI, 6, .inl pkind)), (apq, .inl (cI, 6, .inl pwsq)), (apr, .inl (cI, 6, .inl pwhr))] rr A) args s 0 0 A := ⟨_, rfl⟩
  rw [← hQ]
  unfold f_X1_appointments at hF
  refine lv_iconst (v := (0 : Int32)) hx hb dX1_appointments_0 (by decide) ?_
  refine lv_istore_n (lv' := [(1, .int (0 : Int32)), (0, .ref aq)]) hx hb dX1_appointments_1 rfl hl (by decide) rfl (fun ls hl => ?_)
  refine lv_iconst (v := (0 : Int32)) hx hb dX1_appointments_2 (by decide) ?_
  refine lv_istore_n (lv' := [(2, .int (0 : Int32)), (1, .int (0 : Int32)), (0, .ref aq)]) hx hb dX1_appointments_3 rfl hl (by decide) rfl (fun ls hl => ?_)
  have hL4 : ∀ (k4 : Int32 → Int32 → Option Int32), (∀ (v1 : Int32) (v2 : Int32) (H : Heap) (locs : List Loc), va_P D vwCl [(aq, .inr (1, [.ref ap, .int qgone, .int qmet, .int qstill, .int qdone, .ref aqh, .ref aqw, .ref aqs, .ref aqu])), (aqh, .inl (cI, 6, .inl qhour)), (aqw, .inl (cI, 6, .inl qworn)), (aqs, .inl (cI, 5, .inl qsquare)), (aqu, .inl (cI, 5, .inl qunder)), (ap, .inr (2, [.int psq, .int ppa, .int ppe, .int pwo, .ref apk, .ref apq, .ref apr])), (apk, .inl (cI, 6, .inl pkind)), (apq, .inl (cI, 6, .inl pwsq)), (apr, .inl (cI, 6, .inl pwhr))] H → va_D A [(aq, .inr (1, [.ref ap, .int qgone, .int qmet, .int qstill, .int qdone, .ref aqh, .ref aqw, .ref aqs, .ref aqu])), (aqh, .inl (cI, 6, .inl qhour)), (aqw, .inl (cI, 6, .inl qworn)), (aqs, .inl (cI, 5, .inl qsquare)), (aqu, .inl (cI, 5, .inl qunder)), (ap, .inr (2, [.int psq, .int ppa, .int ppe, .int pwo, .ref apk, .ref apq, .ref apr])), (apk, .inl (cI, 6, .inl pkind)), (apq, .inl (cI, 6, .inl pwsq)), (apr, .inl (cI, 6, .inl pwhr))] → va_S A s.heap H locs → ∀ ls : Array Slot, lv_has ls 4 [(1, .int v1)] → k4 v1 v2 = some rr → W p l e rm_X1_appointments s m args below meth c H locs 0 0 Q (F0 m 87 ls [])) → ∀ (nf4 : Nat) (v1 : Int32) (v2 : Int32) (H : Heap) (locs : List Loc), va_P D vwCl [(aq, .inr (1, [.ref ap, .int qgone, .int qmet, .int qstill, .int qdone, .ref aqh, .ref aqw, .ref aqs, .ref aqu])), (aqh, .inl (cI, 6, .inl qhour)), (aqw, .inl (cI, 6, .inl qworn)), (aqs, .inl (cI, 5, .inl qsquare)), (aqu, .inl (cI, 5, .inl qunder)), (ap, .inr (2, [.int psq, .int ppa, .int ppe, .int pwo, .ref apk, .ref apq, .ref apr])), (apk, .inl (cI, 6, .inl pkind)), (apq, .inl (cI, 6, .inl pwsq)), (apr, .inl (cI, 6, .inl pwhr))] H → va_D A [(aq, .inr (1, [.ref ap, .int qgone, .int qmet, .int qstill, .int qdone, .ref aqh, .ref aqw, .ref aqs, .ref aqu])), (aqh, .inl (cI, 6, .inl qhour)), (aqw, .inl (cI, 6, .inl qworn)), (aqs, .inl (cI, 5, .inl qsquare)), (aqu, .inl (cI, 5, .inl qunder)), (ap, .inr (2, [.int psq, .int ppa, .int ppe, .int pwo, .ref apk, .ref apq, .ref apr])), (apk, .inl (cI, 6, .inl pkind)), (apq, .inl (cI, 6, .inl pwsq)), (apr, .inl (cI, 6, .inl pwhr))] → va_S A s.heap H locs → ∀ ls : Array Slot, lv_has ls 4 [(2, .int v2), (1, .int v1), (0, .ref aq)] → f_X1_appointments_L4 ppa qhour qsquare qunder ppe k4 nf4 v1 v2 = some rr → W p l e rm_X1_appointments s m args below meth c H locs 0 0 Q (F0 m 4 ls []) := by
    intro k4 hk4 nf4
    induction nf4 with
    | zero =>
      intro v1 v2 H locs hP hD hS ls hl hF
      rw [f_X1_appointments_L4_0] at hF
      cases hF
    | succ nf4 ih4 =>
      intro v1 v2 H locs hP hD hS ls hl hF
      rw [f_X1_appointments_L4_s] at hF
      refine lv_iload_n hx hb dX1_appointments_4 rfl (lv_at hl 0 rfl) ?_
      refine lv_aload_n hx hb dX1_appointments_5 rfl (lv_at hl 2 rfl) ?_
      refine va_get (D := D) (ci := 1) (v := .ref ap) (C := RX1) (T := TX1) (N := 9) hx hb hts iX1 hown hK hP 0 rfl rfl 0 (by decide) k_f24 (fun _ h9 => h9) rfl dX1_appointments_6 ?_
      refine va_get (D := D) (ci := 2) (v := .int ppa) (C := RX2) (T := TX2) (N := 7) hx hb hts iX2 hown hK hP 5 rfl rfl 1 (by decide) k_f65 (fun _ h9 => h9) rfl dX1_appointments_9 ?_
      refine lv_icmp_ge (tgt := 87) hx hb dX1_appointments_12 (by decide) (fun c3 => ?_) (fun c3 => ?_)
      · have hF := op_pos c3 hF
        exact hk4 v1 v2 _ _ hP hD hS _ (lv_sub hl [1] rfl) hF
      · have hF := op_neg c3 hF
        refine lv_iload_n hx hb dX1_appointments_15 rfl (lv_at hl 0 rfl) ?_
        refine lv_iconst (v := (1 : Int32)) hx hb dX1_appointments_16 (by decide) ?_
        refine lv_iadd hx hb dX1_appointments_17 ?_
        refine lv_istore_n (lv' := [(3, .int (v2 + (1 : Int32))), (2, .int v2), (1, .int v1), (0, .ref aq)]) hx hb dX1_appointments_18 rfl hl (by decide) rfl (fun ls hl => ?_)
        have hL19 : ∀ (k19 : Int32 → Int32 → Option Int32), (∀ (v4 : Int32) (v5 : Int32) (H : Heap) (locs : List Loc), va_P D vwCl [(aq, .inr (1, [.ref ap, .int qgone, .int qmet, .int qstill, .int qdone, .ref aqh, .ref aqw, .ref aqs, .ref aqu])), (aqh, .inl (cI, 6, .inl qhour)), (aqw, .inl (cI, 6, .inl qworn)), (aqs, .inl (cI, 5, .inl qsquare)), (aqu, .inl (cI, 5, .inl qunder)), (ap, .inr (2, [.int psq, .int ppa, .int ppe, .int pwo, .ref apk, .ref apq, .ref apr])), (apk, .inl (cI, 6, .inl pkind)), (apq, .inl (cI, 6, .inl pwsq)), (apr, .inl (cI, 6, .inl pwhr))] H → va_D A [(aq, .inr (1, [.ref ap, .int qgone, .int qmet, .int qstill, .int qdone, .ref aqh, .ref aqw, .ref aqs, .ref aqu])), (aqh, .inl (cI, 6, .inl qhour)), (aqw, .inl (cI, 6, .inl qworn)), (aqs, .inl (cI, 5, .inl qsquare)), (aqu, .inl (cI, 5, .inl qunder)), (ap, .inr (2, [.int psq, .int ppa, .int ppe, .int pwo, .ref apk, .ref apq, .ref apr])), (apk, .inl (cI, 6, .inl pkind)), (apq, .inl (cI, 6, .inl pwsq)), (apr, .inl (cI, 6, .inl pwhr))] → va_S A s.heap H locs → ∀ ls : Array Slot, lv_has ls 4 [(2, .int v2), (1, .int v4), (0, .ref aq)] → k19 v4 v5 = some rr → W p l e rm_X1_appointments s m args below meth c H locs 0 0 Q (F0 m 81 ls [])) → ∀ (nf19 : Nat) (v4 : Int32) (v5 : Int32) (H : Heap) (locs : List Loc), va_P D vwCl [(aq, .inr (1, [.ref ap, .int qgone, .int qmet, .int qstill, .int qdone, .ref aqh, .ref aqw, .ref aqs, .ref aqu])), (aqh, .inl (cI, 6, .inl qhour)), (aqw, .inl (cI, 6, .inl qworn)), (aqs, .inl (cI, 5, .inl qsquare)), (aqu, .inl (cI, 5, .inl qunder)), (ap, .inr (2, [.int psq, .int ppa, .int ppe, .int pwo, .ref apk, .ref apq, .ref apr])), (apk, .inl (cI, 6, .inl pkind)), (apq, .inl (cI, 6, .inl pwsq)), (apr, .inl (cI, 6, .inl pwhr))] H → va_D A [(aq, .inr (1, [.ref ap, .int qgone, .int qmet, .int qstill, .int qdone, .ref aqh, .ref aqw, .ref aqs, .ref aqu])), (aqh, .inl (cI, 6, .inl qhour)), (aqw, .inl (cI, 6, .inl qworn)), (aqs, .inl (cI, 5, .inl qsquare)), (aqu, .inl (cI, 5, .inl qunder)), (ap, .inr (2, [.int psq, .int ppa, .int ppe, .int pwo, .ref apk, .ref apq, .ref apr])), (apk, .inl (cI, 6, .inl pkind)), (apq, .inl (cI, 6, .inl pwsq)), (apr, .inl (cI, 6, .inl pwhr))] → va_S A s.heap H locs → ∀ ls : Array Slot, lv_has ls 4 [(3, .int v5), (2, .int v2), (1, .int v4), (0, .ref aq)] → f_X1_appointments_L19 ppa qhour v2 qsquare qunder ppe k19 nf19 v4 v5 = some rr → W p l e rm_X1_appointments s m args below meth c H locs 0 0 Q (F0 m 19 ls []) := by
          intro k19 hk19 nf19
          induction nf19 with
          | zero =>
            intro v4 v5 H locs hP hD hS ls hl hF
            rw [f_X1_appointments_L19_0] at hF
            cases hF
          | succ nf19 ih19 =>
            intro v4 v5 H locs hP hD hS ls hl hF
            rw [f_X1_appointments_L19_s] at hF
            refine lv_iload_n hx hb dX1_appointments_19 rfl (lv_at hl 0 rfl) ?_
            refine lv_aload_n hx hb dX1_appointments_20 rfl (lv_at hl 3 rfl) ?_
            refine va_get (D := D) (ci := 1) (v := .ref ap) (C := RX1) (T := TX1) (N := 9) hx hb hts iX1 hown hK hP 0 rfl rfl 0 (by decide) k_f24 (fun _ h9 => h9) rfl dX1_appointments_21 ?_
            refine va_get (D := D) (ci := 2) (v := .int ppa) (C := RX2) (T := TX2) (N := 7) hx hb hts iX2 hown hK hP 5 rfl rfl 1 (by decide) k_f65 (fun _ h9 => h9) rfl dX1_appointments_24 ?_
            refine lv_icmp_ge (tgt := 81) hx hb dX1_appointments_27 (by decide) (fun c6 => ?_) (fun c6 => ?_)
            · have hF := op_pos c6 hF
              exact hk19 v4 v5 _ _ hP hD hS _ (lv_sub hl [1, 2, 3] rfl) hF
            · have hF := op_neg c6 hF
              refine lv_aload_n hx hb dX1_appointments_30 rfl (lv_at hl 3 rfl) ?_
              refine lv_iload_n hx hb dX1_appointments_31 rfl (lv_at hl 1 rfl) ?_
              obtain ⟨r7, hb8, hF⟩ := op_bind hF
              refine xVr (As := [.int v2]) (rest := []) hC hP hD hS [0, 1, 2, 3, 4, 5, 6, 7, 8] (c_X1_hourOf l D cI cC cM aq aqh aqw aqs aqu ap apk apq apr qgone qmet qstill qdone qhour qworn qsquare qunder psq ppa ppe pwo pkind pwsq pwhr v2 r7 hb8) (cwV 1 hts gX1_appointments_X1_hourOf rfl rfl rfl ⟨rfl, pd_X1_hourOf⟩ ⟨Nat.le_of_ble_eq_true rfl, Nat.le_of_ble_eq_true rfl⟩) rfl rfl 0 1 rfl rfl rfl rfl hl.1 rfl (Nat.le_of_ble_eq_true rfl) dX1_appointments_32 ⟨Nat.zero_le _, Nat.zero_le _⟩ (fun H locs hP hS => ?_)
              refine lv_aload_n hx hb dX1_appointments_35 rfl (lv_at hl 3 rfl) ?_
              refine lv_iload_n hx hb dX1_appointments_36 rfl (lv_at hl 0 rfl) ?_
              obtain ⟨r9, hb10, hF⟩ := op_bind hF
              refine xVr (As := [.int v5]) (rest := [.int r7]) hC hP hD hS [0, 1, 2, 3, 4, 5, 6, 7, 8] (c_X1_hourOf l D cI cC cM aq aqh aqw aqs aqu ap apk apq apr qgone qmet qstill qdone qhour qworn qsquare qunder psq ppa ppe pwo pkind pwsq pwhr v5 r9 hb10) (cwV 1 hts gX1_appointments_X1_hourOf rfl rfl rfl ⟨rfl, pd_X1_hourOf⟩ ⟨Nat.le_of_ble_eq_true rfl, Nat.le_of_ble_eq_true rfl⟩) rfl rfl 0 1 rfl rfl rfl rfl hl.1 rfl (Nat.le_of_ble_eq_true rfl) dX1_appointments_37 ⟨Nat.zero_le _, Nat.zero_le _⟩ (fun H locs hP hS => ?_)
              refine lv_icmp_ne (tgt := 75) hx hb dX1_appointments_40 (by decide) (fun c11 => ?_) (fun c11 => ?_)
              · have hF := op_neg c11 hF
                refine lv_iinc (v := (v5 + (1 : Int32))) (lv' := [(3, .int (v5 + (1 : Int32))), (2, .int v2), (1, .int v4), (0, .ref aq)]) hx hb dX1_appointments_75 hl (k := 0) rfl (by first | rfl | decide) (by decide) rfl (fun ls hl => ?_)
                refine lv_goto (tgt := 19) hx hb dX1_appointments_78 (by decide) ?_
                exact ih19 v4 (v5 + (1 : Int32)) _ _ hP hD hS _ (lv_sub hl [0, 1, 2, 3] rfl) hF
              · have hF := op_pos c11 hF
                refine lv_aload_n hx hb dX1_appointments_43 rfl (lv_at hl 3 rfl) ?_
                refine lv_iload_n hx hb dX1_appointments_44 rfl (lv_at hl 1 rfl) ?_
                obtain ⟨r12, hb13, hF⟩ := op_bind hF
                refine xVr (As := [.int v2]) (rest := []) hC hP hD hS [0, 1, 2, 3, 4, 5, 6, 7, 8] (c_X1_squareOfParasol l D cI cC cM aq aqh aqw aqs aqu ap apk apq apr qgone qmet qstill qdone qhour qworn qsquare qunder psq ppa ppe pwo pkind pwsq pwhr v2 r12 hb13) (cwV 1 hts gX1_appointments_X1_squareOfParasol rfl rfl rfl ⟨rfl, pd_X1_squareOfParasol⟩ ⟨Nat.le_of_ble_eq_true rfl, Nat.le_of_ble_eq_true rfl⟩) rfl rfl 0 1 rfl rfl rfl rfl hl.1 rfl (Nat.le_of_ble_eq_true rfl) dX1_appointments_45 ⟨Nat.zero_le _, Nat.zero_le _⟩ (fun H locs hP hS => ?_)
                refine lv_aload_n hx hb dX1_appointments_48 rfl (lv_at hl 3 rfl) ?_
                refine lv_iload_n hx hb dX1_appointments_49 rfl (lv_at hl 0 rfl) ?_
                obtain ⟨r14, hb15, hF⟩ := op_bind hF
                refine xVr (As := [.int v5]) (rest := [.int r12]) hC hP hD hS [0, 1, 2, 3, 4, 5, 6, 7, 8] (c_X1_squareOfParasol l D cI cC cM aq aqh aqw aqs aqu ap apk apq apr qgone qmet qstill qdone qhour qworn qsquare qunder psq ppa ppe pwo pkind pwsq pwhr v5 r14 hb15) (cwV 1 hts gX1_appointments_X1_squareOfParasol rfl rfl rfl ⟨rfl, pd_X1_squareOfParasol⟩ ⟨Nat.le_of_ble_eq_true rfl, Nat.le_of_ble_eq_true rfl⟩) rfl rfl 0 1 rfl rfl rfl rfl hl.1 rfl (Nat.le_of_ble_eq_true rfl) dX1_appointments_50 ⟨Nat.zero_le _, Nat.zero_le _⟩ (fun H locs hP hS => ?_)
                refine lv_icmp_ne (tgt := 75) hx hb dX1_appointments_53 (by decide) (fun c16 => ?_) (fun c16 => ?_)
                · have hF := op_neg c16 hF
                  refine lv_iinc (v := (v5 + (1 : Int32))) (lv' := [(3, .int (v5 + (1 : Int32))), (2, .int v2), (1, .int v4), (0, .ref aq)]) hx hb dX1_appointments_75 hl (k := 0) rfl (by first | rfl | decide) (by decide) rfl (fun ls hl => ?_)
                  refine lv_goto (tgt := 19) hx hb dX1_appointments_78 (by decide) ?_
                  exact ih19 v4 (v5 + (1 : Int32)) _ _ hP hD hS _ (lv_sub hl [0, 1, 2, 3] rfl) hF
                · have hF := op_pos c16 hF
                  refine lv_aload_n hx hb dX1_appointments_56 rfl (lv_at hl 3 rfl) ?_
                  refine lv_iload_n hx hb dX1_appointments_57 rfl (lv_at hl 1 rfl) ?_
                  obtain ⟨r17, hb18, hF⟩ := op_bind hF
                  refine xVr (As := [.int v2]) (rest := []) hC hP hD hS [0, 1, 2, 3, 4, 5, 6, 7, 8] (c_X1_isInStand l D cI cC cM aq aqh aqw aqs aqu ap apk apq apr qgone qmet qstill qdone qhour qworn qsquare qunder psq ppa ppe pwo pkind pwsq pwhr v2 r17 hb18) (cwV 1 hts gX1_appointments_X1_isInStand rfl rfl rfl ⟨rfl, pd_X1_isInStand⟩ ⟨Nat.le_of_ble_eq_true rfl, Nat.le_of_ble_eq_true rfl⟩) rfl rfl 0 1 rfl rfl rfl rfl hl.1 rfl (Nat.le_of_ble_eq_true rfl) dX1_appointments_58 ⟨Nat.zero_le _, Nat.zero_le _⟩ (fun H locs hP hS => ?_)
                  refine lv_if_ne (tgt := 75) hx hb dX1_appointments_61 (by decide) (fun c19 => ?_) (fun c19 => ?_)
                  · have hF := op_neg c19 hF
                    refine lv_iinc (v := (v5 + (1 : Int32))) (lv' := [(3, .int (v5 + (1 : Int32))), (2, .int v2), (1, .int v4), (0, .ref aq)]) hx hb dX1_appointments_75 hl (k := 0) rfl (by first | rfl | decide) (by decide) rfl (fun ls hl => ?_)
                    refine lv_goto (tgt := 19) hx hb dX1_appointments_78 (by decide) ?_
                    exact ih19 v4 (v5 + (1 : Int32)) _ _ hP hD hS _ (lv_sub hl [0, 1, 2, 3] rfl) hF
                  · have hF := op_pos c19 hF
                    refine lv_aload_n hx hb dX1_appointments_64 rfl (lv_at hl 3 rfl) ?_
                    refine lv_iload_n hx hb dX1_appointments_65 rfl (lv_at hl 0 rfl) ?_
                    obtain ⟨r20, hb21, hF⟩ := op_bind hF
                    refine xVr (As := [.int v5]) (rest := []) hC hP hD hS [0, 1, 2, 3, 4, 5, 6, 7, 8] (c_X1_isInStand l D cI cC cM aq aqh aqw aqs aqu ap apk apq apr qgone qmet qstill qdone qhour qworn qsquare qunder psq ppa ppe pwo pkind pwsq pwhr v5 r20 hb21) (cwV 1 hts gX1_appointments_X1_isInStand rfl rfl rfl ⟨rfl, pd_X1_isInStand⟩ ⟨Nat.le_of_ble_eq_true rfl, Nat.le_of_ble_eq_true rfl⟩) rfl rfl 0 1 rfl rfl rfl rfl hl.1 rfl (Nat.le_of_ble_eq_true rfl) dX1_appointments_66 ⟨Nat.zero_le _, Nat.zero_le _⟩ (fun H locs hP hS => ?_)
                    refine lv_if_ne (tgt := 75) hx hb dX1_appointments_69 (by decide) (fun c22 => ?_) (fun c22 => ?_)
                    · have hF := op_neg c22 hF
                      refine lv_iinc (v := (v5 + (1 : Int32))) (lv' := [(3, .int (v5 + (1 : Int32))), (2, .int v2), (1, .int v4), (0, .ref aq)]) hx hb dX1_appointments_75 hl (k := 0) rfl (by first | rfl | decide) (by decide) rfl (fun ls hl => ?_)
                      refine lv_goto (tgt := 19) hx hb dX1_appointments_78 (by decide) ?_
                      exact ih19 v4 (v5 + (1 : Int32)) _ _ hP hD hS _ (lv_sub hl [0, 1, 2, 3] rfl) hF
                    · have hF := op_pos c22 hF
                      refine lv_iinc (v := (v4 + (1 : Int32))) (lv' := [(1, .int (v4 + (1 : Int32))), (3, .int v5), (2, .int v2), (0, .ref aq)]) hx hb dX1_appointments_72 hl (k := 2) rfl (by first | rfl | decide) (by decide) rfl (fun ls hl => ?_)
                      refine lv_iinc (v := (v5 + (1 : Int32))) (lv' := [(3, .int (v5 + (1 : Int32))), (1, .int (v4 + (1 : Int32))), (2, .int v2), (0, .ref aq)]) hx hb dX1_appointments_75 hl (k := 1) rfl (by first | rfl | decide) (by decide) rfl (fun ls hl => ?_)
                      refine lv_goto (tgt := 19) hx hb dX1_appointments_78 (by decide) ?_
                      exact ih19 (v4 + (1 : Int32)) (v5 + (1 : Int32)) _ _ hP hD hS _ (lv_sub hl [0, 2, 1, 3] rfl) hF
        refine hL19 _ (fun v4 v5 H locs hP hD hS ls hl hF => ?_) 20000 v1 (v2 + (1 : Int32)) _ _ hP hD hS _ (lv_sub hl [0, 1, 2, 3] rfl) hF
        refine lv_iinc (v := (v2 + (1 : Int32))) (lv' := [(2, .int (v2 + (1 : Int32))), (1, .int v4), (0, .ref aq)]) hx hb dX1_appointments_81 hl (k := 0) rfl (by first | rfl | decide) (by decide) rfl (fun ls hl => ?_)
        refine lv_goto (tgt := 4) hx hb dX1_appointments_84 (by decide) ?_
        exact ih4 v4 (v2 + (1 : Int32)) _ _ hP hD hS _ (lv_sub hl [0, 1, 2] rfl) hF
  refine hL4 _ (fun v1 v2 H locs hP hD hS ls hl hF => ?_) 20000 (0 : Int32) (0 : Int32) _ _ hP hD hS _ (lv_sub hl [0, 1, 2] rfl) hF
  refine lv_iload_n hx hb dX1_appointments_87 rfl (lv_at hl 0 rfl) ?_
  cases hF
  rw [hQ]
  exact xri hC hP hS dX1_appointments_88

def f_X1_standStill_L2 (ppe : Int32) (qworn : (Nat → Int32)) (qsquare : (Nat → Int32)) (qunder : (Nat → Int32)) (k2 : Int32 → Int32 → Option Int32) : Nat → Int32 → Int32 → Option Int32
  | 0, _, _ => none
  | nf2 + 1, v1, qstill_2 => (if ppe ≤ v1 then (k2 v1 qstill_2) else (Option.bind (f_X1_hasShade qworn qsquare qunder v1) fun r4 => (if r4 = 0 then (f_X1_standStill_L2 ppe qworn qsquare qunder k2 nf2 (v1 + (1 : Int32)) (qstill_2 ||| ((1 : Int32) <<< (v1 &&& 31)))) else (f_X1_standStill_L2 ppe qworn qsquare qunder k2 nf2 (v1 + (1 : Int32)) qstill_2))))
theorem f_X1_standStill_L2_0 (ppe : Int32) (qworn : (Nat → Int32)) (qsquare : (Nat → Int32)) (qunder : (Nat → Int32)) (k2 : Int32 → Int32 → Option Int32) (v1 : Int32) (qstill_2 : Int32) : f_X1_standStill_L2 ppe qworn qsquare qunder k2 0 v1 qstill_2 = none := rfl
theorem f_X1_standStill_L2_s (ppe : Int32) (qworn : (Nat → Int32)) (qsquare : (Nat → Int32)) (qunder : (Nat → Int32)) (k2 : Int32 → Int32 → Option Int32) (nf2 : Nat) (v1 : Int32) (qstill_2 : Int32) : f_X1_standStill_L2 ppe qworn qsquare qunder k2 (nf2 + 1) v1 qstill_2 = (if ppe ≤ v1 then (k2 v1 qstill_2) else (Option.bind (f_X1_hasShade qworn qsquare qunder v1) fun r4 => (if r4 = 0 then (f_X1_standStill_L2 ppe qworn qsquare qunder k2 nf2 (v1 + (1 : Int32)) (qstill_2 ||| ((1 : Int32) <<< (v1 &&& 31)))) else (f_X1_standStill_L2 ppe qworn qsquare qunder k2 nf2 (v1 + (1 : Int32)) qstill_2)))) := rfl

def f_X1_standStill (qstill : Int32) (qworn : (Nat → Int32)) (qsquare : (Nat → Int32)) (qunder : (Nat → Int32)) (ppe : Int32) : Option Int32 := (f_X1_standStill_L2 ppe qworn qsquare qunder (fun (v1 : Int32) (qstill_2 : Int32) => (some qstill_2)) 20000 (0 : Int32) qstill)

def rm_X1_standStill : Room := { frames := 3, cells := 0, slots := 0, locals := 64 }

theorem pd_X1_standStill : yX1_standStill.cls ≠ "java/lang/invoke/MethodHandle" ∧ yX1_standStill.cls ≠ "java/lang/invoke/VarHandle" ∧ (parseMethodDescriptor yX1_standStill.desc).map (fun d => d.parameters.length) = some 0 := by decide +kernel

set_option maxHeartbeats 4000000 in
set_option maxRecDepth 100000 in
theorem c_X1_standStill (l : Launch) (D : va_G) (cI cC cM : ClassId) (aq aqh aqw aqs aqu ap apk apq apr : Nat) (qgone : Int32) (qmet : Int32) (qstill : Int32) (qdone : Int32) (qhour : (Nat → Int32)) (qworn : (Nat → Int32)) (qsquare : (Nat → Int32)) (qunder : (Nat → Int32)) (psq : Int32) (ppa : Int32) (ppe : Int32) (pwo : Int32) (pkind : (Nat → Int32)) (pwsq : (Nat → Int32)) (pwhr : (Nat → Int32)) (qstill' : Int32) (hF : f_X1_standStill qstill qworn qsquare qunder ppe = some qstill') : CV l D cI cC cM yX1_standStill wsX1_standStill rm_X1_standStill [.ref aq] [(aq, .inr (1, [.ref ap, .int qgone, .int qmet, .int qstill, .int qdone, .ref aqh, .ref aqw, .ref aqs, .ref aqu])), (aqh, .inl (cI, 6, .inl qhour)), (aqw, .inl (cI, 6, .inl qworn)), (aqs, .inl (cI, 5, .inl qsquare)), (aqu, .inl (cI, 5, .inl qunder)), (ap, .inr (2, [.int psq, .int ppa, .int ppe, .int pwo, .ref apk, .ref apq, .ref apr])), (apk, .inl (cI, 6, .inl pkind)), (apq, .inl (cI, 6, .inl pwsq)), (apr, .inl (cI, 6, .inl pwhr))] [(aq, .inr (1, [.ref ap, .int qgone, .int qmet, .int qstill', .int qdone, .ref aqh, .ref aqw, .ref aqs, .ref aqu])), (aqh, .inl (cI, 6, .inl qhour)), (aqw, .inl (cI, 6, .inl qworn)), (aqs, .inl (cI, 5, .inl qsquare)), (aqu, .inl (cI, 5, .inl qunder)), (ap, .inr (2, [.int psq, .int ppa, .int ppe, .int pwo, .ref apk, .ref apq, .ref apr])), (apk, .inl (cI, 6, .inl pkind)), (apq, .inl (cI, 6, .inl pwsq)), (apr, .inl (cI, 6, .inl pwhr))] := by
  refine CV.of (cc := cX1_standStill) (nL := 2) (ret := none) (by decide) rfl (Nat.le_of_ble_eq_true rfl) ?_
  intro p e s m args below meth c A hC hP hD hS ls hl
  obtain ⟨hx, hb, hml, hown, hts, hr, hlk, hG, hA⟩ := id hC
  have hown : s.vm.findClass RX1 = some m.cls := hown
  have hK := hG.1
  have hl : lv_has ls 2 [(0, .ref aq)] := hl
  have k_f24 := hts (.fieldLink RX1 24 "ParasolHours$Moment" "plan" "LParasolHours$Plan;") (List.mem_of_getElem? (i := 1) rfl)
  have k_f53 := hts (.fieldLink RX1 53 "ParasolHours$Plan" "persons" "I") (List.mem_of_getElem? (i := 2) rfl)
  have k_f35 := hts (.fieldLink RX1 35 "ParasolHours$Moment" "stillBits" "I") (List.mem_of_getElem? (i := 3) rfl)
  have iX1 : ∀ w ∈ wsX10, w ∈ wsX1_standStill := by decide +kernel
  have iX2 : ∀ w ∈ wsX20, w ∈ wsX1_standStill := by decide +kernel
  obtain ⟨Q, hQ⟩ : ∃ Q, Q = MQ below (QV D [(aq, .inr (1, [.ref ap, .int qgone, .int qmet, .int qstill', .int qdone, .ref aqh, .ref aqw, .ref aqs, .ref aqu])), (aqh, .inl (cI, 6, .inl qhour)), (aqw, .inl (cI, 6, .inl qworn)), (aqs, .inl (cI, 5, .inl qsquare)), (aqu, .inl (cI, 5, .inl qunder)), (ap, .inr (2, [.int psq, .int ppa, .int ppe, .int pwo, .ref apk, .ref apq, .ref apr])), (apk, .inl (cI, 6, .inl pkind)), (apq, .inl (cI, 6, .inl pwsq)), (apr, .inl (cI, 6, .inl pwhr))] A) args s 0 0 A := ⟨_, rfl⟩
  rw [← hQ]
  unfold f_X1_standStill at hF
  refine lv_iconst (v := (0 : Int32)) hx hb dX1_standStill_0 (by decide) ?_
  refine lv_istore_n (lv' := [(1, .int (0 : Int32)), (0, .ref aq)]) hx hb dX1_standStill_1 rfl hl (by decide) rfl (fun ls hl => ?_)
  have hL2 : ∀ (k2 : Int32 → Int32 → Option Int32), (∀ (v1 : Int32) (qstill_2 : Int32) (H : Heap) (locs : List Loc), va_P D vwCl [(aq, .inr (1, [.ref ap, .int qgone, .int qmet, .int qstill_2, .int qdone, .ref aqh, .ref aqw, .ref aqs, .ref aqu])), (aqh, .inl (cI, 6, .inl qhour)), (aqw, .inl (cI, 6, .inl qworn)), (aqs, .inl (cI, 5, .inl qsquare)), (aqu, .inl (cI, 5, .inl qunder)), (ap, .inr (2, [.int psq, .int ppa, .int ppe, .int pwo, .ref apk, .ref apq, .ref apr])), (apk, .inl (cI, 6, .inl pkind)), (apq, .inl (cI, 6, .inl pwsq)), (apr, .inl (cI, 6, .inl pwhr))] H → va_D A [(aq, .inr (1, [.ref ap, .int qgone, .int qmet, .int qstill_2, .int qdone, .ref aqh, .ref aqw, .ref aqs, .ref aqu])), (aqh, .inl (cI, 6, .inl qhour)), (aqw, .inl (cI, 6, .inl qworn)), (aqs, .inl (cI, 5, .inl qsquare)), (aqu, .inl (cI, 5, .inl qunder)), (ap, .inr (2, [.int psq, .int ppa, .int ppe, .int pwo, .ref apk, .ref apq, .ref apr])), (apk, .inl (cI, 6, .inl pkind)), (apq, .inl (cI, 6, .inl pwsq)), (apr, .inl (cI, 6, .inl pwhr))] → va_S A s.heap H locs → ∀ ls : Array Slot, lv_has ls 2 [] → k2 v1 qstill_2 = some qstill' → W p l e rm_X1_standStill s m args below meth c H locs 0 0 Q (F0 m 39 ls [])) → ∀ (nf2 : Nat) (v1 : Int32) (qstill_2 : Int32) (H : Heap) (locs : List Loc), va_P D vwCl [(aq, .inr (1, [.ref ap, .int qgone, .int qmet, .int qstill_2, .int qdone, .ref aqh, .ref aqw, .ref aqs, .ref aqu])), (aqh, .inl (cI, 6, .inl qhour)), (aqw, .inl (cI, 6, .inl qworn)), (aqs, .inl (cI, 5, .inl qsquare)), (aqu, .inl (cI, 5, .inl qunder)), (ap, .inr (2, [.int psq, .int ppa, .int ppe, .int pwo, .ref apk, .ref apq, .ref apr])), (apk, .inl (cI, 6, .inl pkind)), (apq, .inl (cI, 6, .inl pwsq)), (apr, .inl (cI, 6, .inl pwhr))] H → va_D A [(aq, .inr (1, [.ref ap, .int qgone, .int qmet, .int qstill_2, .int qdone, .ref aqh, .ref aqw, .ref aqs, .ref aqu])), (aqh, .inl (cI, 6, .inl qhour)), (aqw, .inl (cI, 6, .inl qworn)), (aqs, .inl (cI, 5, .inl qsquare)), (aqu, .inl (cI, 5, .inl qunder)), (ap, .inr (2, [.int psq, .int ppa, .int ppe, .int pwo, .ref apk, .ref apq, .ref apr])), (apk, .inl (cI, 6, .inl pkind)), (apq, .inl (cI, 6, .inl pwsq)), (apr, .inl (cI, 6, .inl pwhr))] → va_S A s.heap H locs → ∀ ls : Array Slot, lv_has ls 2 [(1, .int v1), (0, .ref aq)] → f_X1_standStill_L2 ppe qworn qsquare qunder k2 nf2 v1 qstill_2 = some qstill' → W p l e rm_X1_standStill s m args below meth c H locs 0 0 Q (F0 m 2 ls []) := by
    intro k2 hk2 nf2
    induction nf2 with
    | zero =>
      intro v1 qstill_2 H locs hP hD hS ls hl hF
      rw [f_X1_standStill_L2_0] at hF
      cases hF
    | succ nf2 ih2 =>
      intro v1 qstill_2 H locs hP hD hS ls hl hF
      rw [f_X1_standStill_L2_s] at hF
      refine lv_iload_n hx hb dX1_standStill_2 rfl (lv_at hl 0 rfl) ?_
      refine lv_aload_n hx hb dX1_standStill_3 rfl (lv_at hl 1 rfl) ?_
      refine va_get (D := D) (ci := 1) (v := .ref ap) (C := RX1) (T := TX1) (N := 9) hx hb hts iX1 hown hK hP 0 rfl rfl 0 (by decide) k_f24 (fun _ h9 => h9) rfl dX1_standStill_4 ?_
      refine va_get (D := D) (ci := 2) (v := .int ppe) (C := RX2) (T := TX2) (N := 7) hx hb hts iX2 hown hK hP 5 rfl rfl 2 (by decide) k_f53 (fun _ h9 => h9) rfl dX1_standStill_7 ?_
      refine lv_icmp_ge (tgt := 39) hx hb dX1_standStill_10 (by decide) (fun c3 => ?_) (fun c3 => ?_)
      · have hF := op_pos c3 hF
        exact hk2 v1 qstill_2 _ _ hP hD hS _ (lv_sub hl [] rfl) hF
      · have hF := op_neg c3 hF
        refine lv_aload_n hx hb dX1_standStill_13 rfl (lv_at hl 1 rfl) ?_
        refine lv_iload_n hx hb dX1_standStill_14 rfl (lv_at hl 0 rfl) ?_
        obtain ⟨r4, hb5, hF⟩ := op_bind hF
        refine xVr (As := [.int v1]) (rest := []) hC hP hD hS [0, 1, 2, 3, 4, 5, 6, 7, 8] (c_X1_hasShade l D cI cC cM aq aqh aqw aqs aqu ap apk apq apr qgone qmet qstill_2 qdone qhour qworn qsquare qunder psq ppa ppe pwo pkind pwsq pwhr v1 r4 hb5) (cwV 1 hts gX1_standStill_X1_hasShade rfl rfl rfl ⟨rfl, pd_X1_hasShade⟩ ⟨Nat.le_of_ble_eq_true rfl, Nat.le_of_ble_eq_true rfl⟩) rfl rfl 0 1 rfl rfl rfl rfl hl.1 rfl (Nat.le_of_ble_eq_true rfl) dX1_standStill_15 ⟨Nat.zero_le _, Nat.zero_le _⟩ (fun H locs hP hS => ?_)
        refine lv_if_ne (tgt := 33) hx hb dX1_standStill_18 (by decide) (fun c6 => ?_) (fun c6 => ?_)
        · have hF := op_neg c6 hF
          refine lv_iinc (v := (v1 + (1 : Int32))) (lv' := [(1, .int (v1 + (1 : Int32))), (0, .ref aq)]) hx hb dX1_standStill_33 hl (k := 0) rfl (by first | rfl | decide) (by decide) rfl (fun ls hl => ?_)
          refine lv_goto (tgt := 2) hx hb dX1_standStill_36 (by decide) ?_
          exact ih2 (v1 + (1 : Int32)) qstill_2 _ _ hP hD hS _ (lv_sub hl [0, 1] rfl) hF
        · have hF := op_pos c6 hF
          refine lv_aload_n hx hb dX1_standStill_21 rfl (lv_at hl 1 rfl) ?_
          refine lv_dup hx hb dX1_standStill_22 rfl ?_
          refine va_get (D := D) (ci := 1) (v := .int qstill_2) (C := RX1) (T := TX1) (N := 9) hx hb hts iX1 hown hK hP 0 rfl rfl 3 (by decide) k_f35 (fun _ h9 => h9) rfl dX1_standStill_23 ?_
          refine lv_iconst (v := (1 : Int32)) hx hb dX1_standStill_26 (by decide) ?_
          refine lv_iload_n hx hb dX1_standStill_27 rfl (lv_at hl 0 rfl) ?_
          refine lv_ishl hx hb dX1_standStill_28 ?_
          refine lv_ior hx hb dX1_standStill_29 ?_
          refine va_put (D := D) (ci := 1) (v := .int (qstill_2 ||| ((1 : Int32) <<< (v1 &&& 31)))) (ty := .int) (C := RX1) (T := TX1) (N := 9) hx hb hts iX1 tyX1 tyX1_ok nmX1 hown hK hP hD hS 0 rfl rfl 3 (by decide) k_f35 (fun _ h9 => h9) rfl (by decide +kernel) rfl rfl (Nat.le_of_ble_eq_true rfl) dX1_standStill_30 (fun H locs hP hD hS => ?_)
          have hP : va_P D vwCl [(aq, .inr (1, [.ref ap, .int qgone, .int qmet, .int (qstill_2 ||| ((1 : Int32) <<< (v1 &&& 31))), .int qdone, .ref aqh, .ref aqw, .ref aqs, .ref aqu])), (aqh, .inl (cI, 6, .inl qhour)), (aqw, .inl (cI, 6, .inl qworn)), (aqs, .inl (cI, 5, .inl qsquare)), (aqu, .inl (cI, 5, .inl qunder)), (ap, .inr (2, [.int psq, .int ppa, .int ppe, .int pwo, .ref apk, .ref apq, .ref apr])), (apk, .inl (cI, 6, .inl pkind)), (apq, .inl (cI, 6, .inl pwsq)), (apr, .inl (cI, 6, .inl pwhr))] H := hP
          have hD : va_D A [(aq, .inr (1, [.ref ap, .int qgone, .int qmet, .int (qstill_2 ||| ((1 : Int32) <<< (v1 &&& 31))), .int qdone, .ref aqh, .ref aqw, .ref aqs, .ref aqu])), (aqh, .inl (cI, 6, .inl qhour)), (aqw, .inl (cI, 6, .inl qworn)), (aqs, .inl (cI, 5, .inl qsquare)), (aqu, .inl (cI, 5, .inl qunder)), (ap, .inr (2, [.int psq, .int ppa, .int ppe, .int pwo, .ref apk, .ref apq, .ref apr])), (apk, .inl (cI, 6, .inl pkind)), (apq, .inl (cI, 6, .inl pwsq)), (apr, .inl (cI, 6, .inl pwhr))] := hD
          refine lv_iinc (v := (v1 + (1 : Int32))) (lv' := [(1, .int (v1 + (1 : Int32))), (0, .ref aq)]) hx hb dX1_standStill_33 hl (k := 0) rfl (by first | rfl | decide) (by decide) rfl (fun ls hl => ?_)
          refine lv_goto (tgt := 2) hx hb dX1_standStill_36 (by decide) ?_
          exact ih2 (v1 + (1 : Int32)) (qstill_2 ||| ((1 : Int32) <<< (v1 &&& 31))) _ _ hP hD hS _ (lv_sub hl [0, 1] rfl) hF
  refine hL2 _ (fun v1 qstill_2 H locs hP hD hS ls hl hF => ?_) 20000 (0 : Int32) qstill _ _ hP hD hS _ (lv_sub hl [0, 1] rfl) hF
  cases hF
  rw [hQ]
  exact xrv hC hP hS dX1_standStill_39

def f_X1_turnParasols_L2 (ppa : Int32) (qunder : (Nat → Int32)) (ppe : Int32) (qgone : Int32) (pkind : (Nat → Int32)) (k2 : Int32 → (Nat → Int32) → (Nat → Int32) → Option ((Nat → Int32) × (Nat → Int32))) : Nat → Int32 → (Nat → Int32) → (Nat → Int32) → Option ((Nat → Int32) × (Nat → Int32))
  | 0, _, _, _ => none
  | nf2 + 1, v1, qhour_2, qworn_3 => (if ppa ≤ v1 then (k2 v1 qhour_2 qworn_3) else (Option.bind (f_X1_isInStand qunder ppe v1) fun r5 => (if r5 = 0 then (Option.bind (f_X1_hourBehind qgone qhour_2 pkind v1 (1 : Int32)) fun r8 => (Option.bind (f_X7_put 6 qhour_2 v1 r8) fun f_10 => (Option.bind (f_X1_wornBehind qgone qworn_3 pkind v1 (1 : Int32)) fun r12 => (Option.bind (f_X7_put 6 qworn_3 v1 r12) fun f_14 => (f_X1_turnParasols_L2 ppa qunder ppe qgone pkind k2 nf2 (v1 + (1 : Int32)) f_10 f_14))))) else (f_X1_turnParasols_L2 ppa qunder ppe qgone pkind k2 nf2 (v1 + (1 : Int32)) qhour_2 qworn_3))))
theorem f_X1_turnParasols_L2_0 (ppa : Int32) (qunder : (Nat → Int32)) (ppe : Int32) (qgone : Int32) (pkind : (Nat → Int32)) (k2 : Int32 → (Nat → Int32) → (Nat → Int32) → Option ((Nat → Int32) × (Nat → Int32))) (v1 : Int32) (qhour_2 : (Nat → Int32)) (qworn_3 : (Nat → Int32)) : f_X1_turnParasols_L2 ppa qunder ppe qgone pkind k2 0 v1 qhour_2 qworn_3 = none := rfl
theorem f_X1_turnParasols_L2_s (ppa : Int32) (qunder : (Nat → Int32)) (ppe : Int32) (qgone : Int32) (pkind : (Nat → Int32)) (k2 : Int32 → (Nat → Int32) → (Nat → Int32) → Option ((Nat → Int32) × (Nat → Int32))) (nf2 : Nat) (v1 : Int32) (qhour_2 : (Nat → Int32)) (qworn_3 : (Nat → Int32)) : f_X1_turnParasols_L2 ppa qunder ppe qgone pkind k2 (nf2 + 1) v1 qhour_2 qworn_3 = (if ppa ≤ v1 then (k2 v1 qhour_2 qworn_3) else (Option.bind (f_X1_isInStand qunder ppe v1) fun r5 => (if r5 = 0 then (Option.bind (f_X1_hourBehind qgone qhour_2 pkind v1 (1 : Int32)) fun r8 => (Option.bind (f_X7_put 6 qhour_2 v1 r8) fun f_10 => (Option.bind (f_X1_wornBehind qgone qworn_3 pkind v1 (1 : Int32)) fun r12 => (Option.bind (f_X7_put 6 qworn_3 v1 r12) fun f_14 => (f_X1_turnParasols_L2 ppa qunder ppe qgone pkind k2 nf2 (v1 + (1 : Int32)) f_10 f_14))))) else (f_X1_turnParasols_L2 ppa qunder ppe qgone pkind k2 nf2 (v1 + (1 : Int32)) qhour_2 qworn_3)))) := rfl

def f_X1_turnParasols (qgone : Int32) (qhour : (Nat → Int32)) (qworn : (Nat → Int32)) (qunder : (Nat → Int32)) (ppa : Int32) (ppe : Int32) (pkind : (Nat → Int32)) : Option ((Nat → Int32) × (Nat → Int32)) := (f_X1_turnParasols_L2 ppa qunder ppe qgone pkind (fun (v1 : Int32) (qhour_2 : (Nat → Int32)) (qworn_3 : (Nat → Int32)) => (some (qhour_2, qworn_3))) 20000 (0 : Int32) qhour qworn)

def rm_X1_turnParasols : Room := { frames := 4, cells := 0, slots := 0, locals := 89 }

theorem pd_X1_turnParasols : yX1_turnParasols.cls ≠ "java/lang/invoke/MethodHandle" ∧ yX1_turnParasols.cls ≠ "java/lang/invoke/VarHandle" ∧ (parseMethodDescriptor yX1_turnParasols.desc).map (fun d => d.parameters.length) = some 0 := by decide +kernel

set_option maxHeartbeats 4000000 in
set_option maxRecDepth 100000 in
theorem c_X1_turnParasols (l : Launch) (D : va_G) (cI cC cM : ClassId) (aq aqh aqw aqs aqu ap apk apq apr : Nat) (qgone : Int32) (qmet : Int32) (qstill : Int32) (qdone : Int32) (qhour : (Nat → Int32)) (qworn : (Nat → Int32)) (qsquare : (Nat → Int32)) (qunder : (Nat → Int32)) (psq : Int32) (ppa : Int32) (ppe : Int32) (pwo : Int32) (pkind : (Nat → Int32)) (pwsq : (Nat → Int32)) (pwhr : (Nat → Int32)) (qhour' : (Nat → Int32)) (qworn' : (Nat → Int32)) (hF : f_X1_turnParasols qgone qhour qworn qunder ppa ppe pkind = some (qhour', qworn')) : CV l D cI cC cM yX1_turnParasols wsX1_turnParasols rm_X1_turnParasols [.ref aq] [(aq, .inr (1, [.ref ap, .int qgone, .int qmet, .int qstill, .int qdone, .ref aqh, .ref aqw, .ref aqs, .ref aqu])), (aqh, .inl (cI, 6, .inl qhour)), (aqw, .inl (cI, 6, .inl qworn)), (aqs, .inl (cI, 5, .inl qsquare)), (aqu, .inl (cI, 5, .inl qunder)), (ap, .inr (2, [.int psq, .int ppa, .int ppe, .int pwo, .ref apk, .ref apq, .ref apr])), (apk, .inl (cI, 6, .inl pkind)), (apq, .inl (cI, 6, .inl pwsq)), (apr, .inl (cI, 6, .inl pwhr))] [(aq, .inr (1, [.ref ap, .int qgone, .int qmet, .int qstill, .int qdone, .ref aqh, .ref aqw, .ref aqs, .ref aqu])), (aqh, .inl (cI, 6, .inl qhour')), (aqw, .inl (cI, 6, .inl qworn')), (aqs, .inl (cI, 5, .inl qsquare)), (aqu, .inl (cI, 5, .inl qunder)), (ap, .inr (2, [.int psq, .int ppa, .int ppe, .int pwo, .ref apk, .ref apq, .ref apr])), (apk, .inl (cI, 6, .inl pkind)), (apq, .inl (cI, 6, .inl pwsq)), (apr, .inl (cI, 6, .inl pwhr))] := by
  refine CV.of (cc := cX1_turnParasols) (nL := 2) (ret := none) (by decide) rfl (Nat.le_of_ble_eq_true rfl) ?_
  intro p e s m args below meth c A hC hP hD hS ls hl
  obtain ⟨hx, hb, hml, hown, hts, hr, hlk, hG, hA⟩ := id hC
  have hown : s.vm.findClass RX1 = some m.cls := hown
  have hK := hG.1
  have hl : lv_has ls 2 [(0, .ref aq)] := hl
  have k_f24 := hts (.fieldLink RX1 24 "ParasolHours$Moment" "plan" "LParasolHours$Plan;") (List.mem_of_getElem? (i := 1) rfl)
  have k_f65 := hts (.fieldLink RX1 65 "ParasolHours$Plan" "parasols" "I") (List.mem_of_getElem? (i := 2) rfl)
  have k_f9 := hts (.fieldLink RX1 9 "ParasolHours$Moment" "hour" "[I") (List.mem_of_getElem? (i := 3) rfl)
  have k_st_put := hts (.static yX7_put) (List.mem_of_getElem? (i := 49) rfl)
  have k_in_X7 := hts (.initialized RX7) (List.mem_of_getElem? (i := 21) rfl)
  have k_f15 := hts (.fieldLink RX1 15 "ParasolHours$Moment" "worn" "[I") (List.mem_of_getElem? (i := 4) rfl)
  have iX1 : ∀ w ∈ wsX10, w ∈ wsX1_turnParasols := by decide +kernel
  have iX2 : ∀ w ∈ wsX20, w ∈ wsX1_turnParasols := by decide +kernel
  obtain ⟨Q, hQ⟩ : ∃ Q, Q = MQ below (QV D [(aq, .inr (1, [.ref ap, .int qgone, .int qmet, .int qstill, .int qdone, .ref aqh, .ref aqw, .ref aqs, .ref aqu])), (aqh, .inl (cI, 6, .inl qhour')), (aqw, .inl (cI, 6, .inl qworn')), (aqs, .inl (cI, 5, .inl qsquare)), (aqu, .inl (cI, 5, .inl qunder)), (ap, .inr (2, [.int psq, .int ppa, .int ppe, .int pwo, .ref apk, .ref apq, .ref apr])), (apk, .inl (cI, 6, .inl pkind)), (apq, .inl (cI, 6, .inl pwsq)), (apr, .inl (cI, 6, .inl pwhr))] A) args s 0 0 A := ⟨_, rfl⟩
  rw [← hQ]
  unfold f_X1_turnParasols at hF
  refine lv_iconst (v := (0 : Int32)) hx hb dX1_turnParasols_0 (by decide) ?_
  refine lv_istore_n (lv' := [(1, .int (0 : Int32)), (0, .ref aq)]) hx hb dX1_turnParasols_1 rfl hl (by decide) rfl (fun ls hl => ?_)
  have hL2 : ∀ (k2 : Int32 → (Nat → Int32) → (Nat → Int32) → Option ((Nat → Int32) × (Nat → Int32))), (∀ (v1 : Int32) (qhour_2 : (Nat → Int32)) (qworn_3 : (Nat → Int32)) (H : Heap) (locs : List Loc), va_P D vwCl [(aq, .inr (1, [.ref ap, .int qgone, .int qmet, .int qstill, .int qdone, .ref aqh, .ref aqw, .ref aqs, .ref aqu])), (aqh, .inl (cI, 6, .inl qhour_2)), (aqw, .inl (cI, 6, .inl qworn_3)), (aqs, .inl (cI, 5, .inl qsquare)), (aqu, .inl (cI, 5, .inl qunder)), (ap, .inr (2, [.int psq, .int ppa, .int ppe, .int pwo, .ref apk, .ref apq, .ref apr])), (apk, .inl (cI, 6, .inl pkind)), (apq, .inl (cI, 6, .inl pwsq)), (apr, .inl (cI, 6, .inl pwhr))] H → va_D A [(aq, .inr (1, [.ref ap, .int qgone, .int qmet, .int qstill, .int qdone, .ref aqh, .ref aqw, .ref aqs, .ref aqu])), (aqh, .inl (cI, 6, .inl qhour_2)), (aqw, .inl (cI, 6, .inl qworn_3)), (aqs, .inl (cI, 5, .inl qsquare)), (aqu, .inl (cI, 5, .inl qunder)), (ap, .inr (2, [.int psq, .int ppa, .int ppe, .int pwo, .ref apk, .ref apq, .ref apr])), (apk, .inl (cI, 6, .inl pkind)), (apq, .inl (cI, 6, .inl pwsq)), (apr, .inl (cI, 6, .inl pwhr))] → va_S A s.heap H locs → ∀ ls : Array Slot, lv_has ls 2 [] → k2 v1 qhour_2 qworn_3 = some (qhour', qworn') → W p l e rm_X1_turnParasols s m args below meth c H locs 0 0 Q (F0 m 55 ls [])) → ∀ (nf2 : Nat) (v1 : Int32) (qhour_2 : (Nat → Int32)) (qworn_3 : (Nat → Int32)) (H : Heap) (locs : List Loc), va_P D vwCl [(aq, .inr (1, [.ref ap, .int qgone, .int qmet, .int qstill, .int qdone, .ref aqh, .ref aqw, .ref aqs, .ref aqu])), (aqh, .inl (cI, 6, .inl qhour_2)), (aqw, .inl (cI, 6, .inl qworn_3)), (aqs, .inl (cI, 5, .inl qsquare)), (aqu, .inl (cI, 5, .inl qunder)), (ap, .inr (2, [.int psq, .int ppa, .int ppe, .int pwo, .ref apk, .ref apq, .ref apr])), (apk, .inl (cI, 6, .inl pkind)), (apq, .inl (cI, 6, .inl pwsq)), (apr, .inl (cI, 6, .inl pwhr))] H → va_D A [(aq, .inr (1, [.ref ap, .int qgone, .int qmet, .int qstill, .int qdone, .ref aqh, .ref aqw, .ref aqs, .ref aqu])), (aqh, .inl (cI, 6, .inl qhour_2)), (aqw, .inl (cI, 6, .inl qworn_3)), (aqs, .inl (cI, 5, .inl qsquare)), (aqu, .inl (cI, 5, .inl qunder)), (ap, .inr (2, [.int psq, .int ppa, .int ppe, .int pwo, .ref apk, .ref apq, .ref apr])), (apk, .inl (cI, 6, .inl pkind)), (apq, .inl (cI, 6, .inl pwsq)), (apr, .inl (cI, 6, .inl pwhr))] → va_S A s.heap H locs → ∀ ls : Array Slot, lv_has ls 2 [(1, .int v1), (0, .ref aq)] → f_X1_turnParasols_L2 ppa qunder ppe qgone pkind k2 nf2 v1 qhour_2 qworn_3 = some (qhour', qworn') → W p l e rm_X1_turnParasols s m args below meth c H locs 0 0 Q (F0 m 2 ls []) := by
    intro k2 hk2 nf2
    induction nf2 with
    | zero =>
      intro v1 qhour_2 qworn_3 H locs hP hD hS ls hl hF
      rw [f_X1_turnParasols_L2_0] at hF
      cases hF
    | succ nf2 ih2 =>
      intro v1 qhour_2 qworn_3 H locs hP hD hS ls hl hF
      rw [f_X1_turnParasols_L2_s] at hF
      refine lv_iload_n hx hb dX1_turnParasols_2 rfl (lv_at hl 0 rfl) ?_
      refine lv_aload_n hx hb dX1_turnParasols_3 rfl (lv_at hl 1 rfl) ?_
      refine va_get (D := D) (ci := 1) (v := .ref ap) (C := RX1) (T := TX1) (N := 9) hx hb hts iX1 hown hK hP 0 rfl rfl 0 (by decide) k_f24 (fun _ h9 => h9) rfl dX1_turnParasols_4 ?_
      refine va_get (D := D) (ci := 2) (v := .int ppa) (C := RX2) (T := TX2) (N := 7) hx hb hts iX2 hown hK hP 5 rfl rfl 1 (by decide) k_f65 (fun _ h9 => h9) rfl dX1_turnParasols_7 ?_
      refine lv_icmp_ge (tgt := 55) hx hb dX1_turnParasols_10 (by decide) (fun c4 => ?_) (fun c4 => ?_)
      · have hF := op_pos c4 hF
        exact hk2 v1 qhour_2 qworn_3 _ _ hP hD hS _ (lv_sub hl [] rfl) hF
      · have hF := op_neg c4 hF
        refine lv_aload_n hx hb dX1_turnParasols_13 rfl (lv_at hl 1 rfl) ?_
        refine lv_iload_n hx hb dX1_turnParasols_14 rfl (lv_at hl 0 rfl) ?_
        obtain ⟨r5, hb6, hF⟩ := op_bind hF
        refine xVr (As := [.int v1]) (rest := []) hC hP hD hS [0, 1, 2, 3, 4, 5, 6, 7, 8] (c_X1_isInStand l D cI cC cM aq aqh aqw aqs aqu ap apk apq apr qgone qmet qstill qdone qhour_2 qworn_3 qsquare qunder psq ppa ppe pwo pkind pwsq pwhr v1 r5 hb6) (cwV 1 hts gX1_turnParasols_X1_isInStand rfl rfl rfl ⟨rfl, pd_X1_isInStand⟩ ⟨Nat.le_of_ble_eq_true rfl, Nat.le_of_ble_eq_true rfl⟩) rfl rfl 0 1 rfl rfl rfl rfl hl.1 rfl (Nat.le_of_ble_eq_true rfl) dX1_turnParasols_15 ⟨Nat.zero_le _, Nat.zero_le _⟩ (fun H locs hP hS => ?_)
        refine lv_if_ne (tgt := 49) hx hb dX1_turnParasols_18 (by decide) (fun c7 => ?_) (fun c7 => ?_)
        · have hF := op_neg c7 hF
          refine lv_iinc (v := (v1 + (1 : Int32))) (lv' := [(1, .int (v1 + (1 : Int32))), (0, .ref aq)]) hx hb dX1_turnParasols_49 hl (k := 0) rfl (by first | rfl | decide) (by decide) rfl (fun ls hl => ?_)
          refine lv_goto (tgt := 2) hx hb dX1_turnParasols_52 (by decide) ?_
          exact ih2 (v1 + (1 : Int32)) qhour_2 qworn_3 _ _ hP hD hS _ (lv_sub hl [0, 1] rfl) hF
        · have hF := op_pos c7 hF
          refine lv_aload_n hx hb dX1_turnParasols_21 rfl (lv_at hl 1 rfl) ?_
          refine va_get (D := D) (ci := 1) (v := .ref aqh) (C := RX1) (T := TX1) (N := 9) hx hb hts iX1 hown hK hP 0 rfl rfl 5 (by decide) k_f9 (fun _ h9 => h9) rfl dX1_turnParasols_22 ?_
          refine lv_iload_n hx hb dX1_turnParasols_25 rfl (lv_at hl 0 rfl) ?_
          refine lv_aload_n hx hb dX1_turnParasols_26 rfl (lv_at hl 1 rfl) ?_
          refine lv_iload_n hx hb dX1_turnParasols_27 rfl (lv_at hl 0 rfl) ?_
          refine lv_iconst (v := (1 : Int32)) hx hb dX1_turnParasols_28 (by decide) ?_
          obtain ⟨r8, hb9, hF⟩ := op_bind hF
          refine xVr (As := [.int v1, .int (1 : Int32)]) (rest := [.int v1, .ref aqh]) hC hP hD hS [0, 1, 2, 3, 4, 5, 6, 7, 8] (c_X1_hourBehind l D cI cC cM aq aqh aqw aqs aqu ap apk apq apr qgone qmet qstill qdone qhour_2 qworn_3 qsquare qunder psq ppa ppe pwo pkind pwsq pwhr v1 (1 : Int32) r8 hb9) (cwV 2 hts gX1_turnParasols_X1_hourBehind rfl rfl rfl ⟨rfl, pd_X1_hourBehind⟩ ⟨Nat.le_of_ble_eq_true rfl, Nat.le_of_ble_eq_true rfl⟩) rfl rfl 0 1 rfl rfl rfl rfl hl.1 rfl (Nat.le_of_ble_eq_true rfl) dX1_turnParasols_29 ⟨Nat.zero_le _, Nat.zero_le _⟩ (fun H locs hP hS => ?_)
          obtain ⟨f_10, hb11, hF⟩ := op_bind hF
          refine xNv (As := [.ref aqh, .int v1, .int r8]) (rest := []) hC hP hD hS [1] (c_X7_put l D cI cC cM aqh 6 qhour_2 v1 r8 f_10 hb11) ⟨va_cnB 3 hts gX1_turnParasols_X7_put_n100 rfl rfl rfl (hG.nw 14 rfl) k_in_X7 pd_X7_put ⟨Nat.le_of_ble_eq_true rfl, Nat.le_of_ble_eq_true rfl⟩, k_st_put, trivial⟩ rfl rfl rfl rfl hl.1 rfl (Nat.le_of_ble_eq_true rfl) dX1_turnParasols_32 ⟨Nat.zero_le _, Nat.zero_le _⟩ (fun H locs hP hD hS => ?_)
          have hP : va_P D vwCl [(aq, .inr (1, [.ref ap, .int qgone, .int qmet, .int qstill, .int qdone, .ref aqh, .ref aqw, .ref aqs, .ref aqu])), (aqh, .inl (cI, 6, .inl f_10)), (aqw, .inl (cI, 6, .inl qworn_3)), (aqs, .inl (cI, 5, .inl qsquare)), (aqu, .inl (cI, 5, .inl qunder)), (ap, .inr (2, [.int psq, .int ppa, .int ppe, .int pwo, .ref apk, .ref apq, .ref apr])), (apk, .inl (cI, 6, .inl pkind)), (apq, .inl (cI, 6, .inl pwsq)), (apr, .inl (cI, 6, .inl pwhr))] H := hP
          have hD : va_D A [(aq, .inr (1, [.ref ap, .int qgone, .int qmet, .int qstill, .int qdone, .ref aqh, .ref aqw, .ref aqs, .ref aqu])), (aqh, .inl (cI, 6, .inl f_10)), (aqw, .inl (cI, 6, .inl qworn_3)), (aqs, .inl (cI, 5, .inl qsquare)), (aqu, .inl (cI, 5, .inl qunder)), (ap, .inr (2, [.int psq, .int ppa, .int ppe, .int pwo, .ref apk, .ref apq, .ref apr])), (apk, .inl (cI, 6, .inl pkind)), (apq, .inl (cI, 6, .inl pwsq)), (apr, .inl (cI, 6, .inl pwhr))] := hD
          refine lv_aload_n hx hb dX1_turnParasols_35 rfl (lv_at hl 1 rfl) ?_
          refine va_get (D := D) (ci := 1) (v := .ref aqw) (C := RX1) (T := TX1) (N := 9) hx hb hts iX1 hown hK hP 0 rfl rfl 6 (by decide) k_f15 (fun _ h9 => h9) rfl dX1_turnParasols_36 ?_
          refine lv_iload_n hx hb dX1_turnParasols_39 rfl (lv_at hl 0 rfl) ?_
          refine lv_aload_n hx hb dX1_turnParasols_40 rfl (lv_at hl 1 rfl) ?_
          refine lv_iload_n hx hb dX1_turnParasols_41 rfl (lv_at hl 0 rfl) ?_
          refine lv_iconst (v := (1 : Int32)) hx hb dX1_turnParasols_42 (by decide) ?_
          obtain ⟨r12, hb13, hF⟩ := op_bind hF
          refine xVr (As := [.int v1, .int (1 : Int32)]) (rest := [.int v1, .ref aqw]) hC hP hD hS [0, 1, 2, 3, 4, 5, 6, 7, 8] (c_X1_wornBehind l D cI cC cM aq aqh aqw aqs aqu ap apk apq apr qgone qmet qstill qdone f_10 qworn_3 qsquare qunder psq ppa ppe pwo pkind pwsq pwhr v1 (1 : Int32) r12 hb13) (cwV 2 hts gX1_turnParasols_X1_wornBehind rfl rfl rfl ⟨rfl, pd_X1_wornBehind⟩ ⟨Nat.le_of_ble_eq_true rfl, Nat.le_of_ble_eq_true rfl⟩) rfl rfl 0 1 rfl rfl rfl rfl hl.1 rfl (Nat.le_of_ble_eq_true rfl) dX1_turnParasols_43 ⟨Nat.zero_le _, Nat.zero_le _⟩ (fun H locs hP hS => ?_)
          obtain ⟨f_14, hb15, hF⟩ := op_bind hF
          refine xNv (As := [.ref aqw, .int v1, .int r12]) (rest := []) hC hP hD hS [2] (c_X7_put l D cI cC cM aqw 6 qworn_3 v1 r12 f_14 hb15) ⟨va_cnB 3 hts gX1_turnParasols_X7_put_n100 rfl rfl rfl (hG.nw 14 rfl) k_in_X7 pd_X7_put ⟨Nat.le_of_ble_eq_true rfl, Nat.le_of_ble_eq_true rfl⟩, k_st_put, trivial⟩ rfl rfl rfl rfl hl.1 rfl (Nat.le_of_ble_eq_true rfl) dX1_turnParasols_46 ⟨Nat.zero_le _, Nat.zero_le _⟩ (fun H locs hP hD hS => ?_)
          have hP : va_P D vwCl [(aq, .inr (1, [.ref ap, .int qgone, .int qmet, .int qstill, .int qdone, .ref aqh, .ref aqw, .ref aqs, .ref aqu])), (aqh, .inl (cI, 6, .inl f_10)), (aqw, .inl (cI, 6, .inl f_14)), (aqs, .inl (cI, 5, .inl qsquare)), (aqu, .inl (cI, 5, .inl qunder)), (ap, .inr (2, [.int psq, .int ppa, .int ppe, .int pwo, .ref apk, .ref apq, .ref apr])), (apk, .inl (cI, 6, .inl pkind)), (apq, .inl (cI, 6, .inl pwsq)), (apr, .inl (cI, 6, .inl pwhr))] H := hP
          have hD : va_D A [(aq, .inr (1, [.ref ap, .int qgone, .int qmet, .int qstill, .int qdone, .ref aqh, .ref aqw, .ref aqs, .ref aqu])), (aqh, .inl (cI, 6, .inl f_10)), (aqw, .inl (cI, 6, .inl f_14)), (aqs, .inl (cI, 5, .inl qsquare)), (aqu, .inl (cI, 5, .inl qunder)), (ap, .inr (2, [.int psq, .int ppa, .int ppe, .int pwo, .ref apk, .ref apq, .ref apr])), (apk, .inl (cI, 6, .inl pkind)), (apq, .inl (cI, 6, .inl pwsq)), (apr, .inl (cI, 6, .inl pwhr))] := hD
          refine lv_iinc (v := (v1 + (1 : Int32))) (lv' := [(1, .int (v1 + (1 : Int32))), (0, .ref aq)]) hx hb dX1_turnParasols_49 hl (k := 0) rfl (by first | rfl | decide) (by decide) rfl (fun ls hl => ?_)
          refine lv_goto (tgt := 2) hx hb dX1_turnParasols_52 (by decide) ?_
          exact ih2 (v1 + (1 : Int32)) f_10 f_14 _ _ hP hD hS _ (lv_sub hl [0, 1] rfl) hF
  refine hL2 _ (fun v1 qhour_2 qworn_3 H locs hP hD hS ls hl hF => ?_) 20000 (0 : Int32) qhour qworn _ _ hP hD hS _ (lv_sub hl [0, 1] rfl) hF
  cases hF
  rw [hQ]
  exact xrv hC hP hS dX1_turnParasols_55

def f_X1_goOn_L2 (n : Int32) (qsquare : (Nat → Int32)) (qunder : (Nat → Int32)) (ppe : Int32) (pwo : Int32) (pwsq : (Nat → Int32)) (pwhr : (Nat → Int32)) (ppa : Int32) (pkind : (Nat → Int32)) (k2 : Int32 → Int32 → Int32 → Int32 → Int32 → (Nat → Int32) → (Nat → Int32) → Option (Int32 × Int32 × Int32 × Int32 × (Nat → Int32) × (Nat → Int32))) : Nat → Int32 → Int32 → Int32 → Int32 → Int32 → (Nat → Int32) → (Nat → Int32) → Option (Int32 × Int32 × Int32 × Int32 × (Nat → Int32) × (Nat → Int32))
  | 0, _, _, _, _, _, _, _ => none
  | nf2 + 1, v1, qgone_2, qmet_3, qstill_4, qdone_5, qhour_6, qworn_7 => (if n ≤ v1 then (k2 v1 qgone_2 qmet_3 qstill_4 qdone_5 qhour_6 qworn_7) else (Option.bind (f_X1_doWorks qstill_4 qdone_5 qhour_6 qworn_7 qsquare qunder ppe pwo pwsq pwhr) fun qdone_9 => (Option.bind (f_X1_appointments qhour_6 qsquare qunder ppa ppe) fun r11 => (Option.bind (f_X1_standStill qstill_4 qworn_7 qsquare qunder ppe) fun qstill_13 => (Option.bind (f_X1_turnParasols qgone_2 qhour_6 qworn_7 qunder ppa ppe pkind) fun (qhour_15, qworn_16) => (f_X1_goOn_L2 n qsquare qunder ppe pwo pwsq pwhr ppa pkind k2 nf2 (v1 + (1 : Int32)) (qgone_2 + (1 : Int32)) (qmet_3 + r11) qstill_13 qdone_9 qhour_15 qworn_16))))))
theorem f_X1_goOn_L2_0 (n : Int32) (qsquare : (Nat → Int32)) (qunder : (Nat → Int32)) (ppe : Int32) (pwo : Int32) (pwsq : (Nat → Int32)) (pwhr : (Nat → Int32)) (ppa : Int32) (pkind : (Nat → Int32)) (k2 : Int32 → Int32 → Int32 → Int32 → Int32 → (Nat → Int32) → (Nat → Int32) → Option (Int32 × Int32 × Int32 × Int32 × (Nat → Int32) × (Nat → Int32))) (v1 : Int32) (qgone_2 : Int32) (qmet_3 : Int32) (qstill_4 : Int32) (qdone_5 : Int32) (qhour_6 : (Nat → Int32)) (qworn_7 : (Nat → Int32)) : f_X1_goOn_L2 n qsquare qunder ppe pwo pwsq pwhr ppa pkind k2 0 v1 qgone_2 qmet_3 qstill_4 qdone_5 qhour_6 qworn_7 = none := rfl
theorem f_X1_goOn_L2_s (n : Int32) (qsquare : (Nat → Int32)) (qunder : (Nat → Int32)) (ppe : Int32) (pwo : Int32) (pwsq : (Nat → Int32)) (pwhr : (Nat → Int32)) (ppa : Int32) (pkind : (Nat → Int32)) (k2 : Int32 → Int32 → Int32 → Int32 → Int32 → (Nat → Int32) → (Nat → Int32) → Option (Int32 × Int32 × Int32 × Int32 × (Nat → Int32) × (Nat → Int32))) (nf2 : Nat) (v1 : Int32) (qgone_2 : Int32) (qmet_3 : Int32) (qstill_4 : Int32) (qdone_5 : Int32) (qhour_6 : (Nat → Int32)) (qworn_7 : (Nat → Int32)) : f_X1_goOn_L2 n qsquare qunder ppe pwo pwsq pwhr ppa pkind k2 (nf2 + 1) v1 qgone_2 qmet_3 qstill_4 qdone_5 qhour_6 qworn_7 = (if n ≤ v1 then (k2 v1 qgone_2 qmet_3 qstill_4 qdone_5 qhour_6 qworn_7) else (Option.bind (f_X1_doWorks qstill_4 qdone_5 qhour_6 qworn_7 qsquare qunder ppe pwo pwsq pwhr) fun qdone_9 => (Option.bind (f_X1_appointments qhour_6 qsquare qunder ppa ppe) fun r11 => (Option.bind (f_X1_standStill qstill_4 qworn_7 qsquare qunder ppe) fun qstill_13 => (Option.bind (f_X1_turnParasols qgone_2 qhour_6 qworn_7 qunder ppa ppe pkind) fun (qhour_15, qworn_16) => (f_X1_goOn_L2 n qsquare qunder ppe pwo pwsq pwhr ppa pkind k2 nf2 (v1 + (1 : Int32)) (qgone_2 + (1 : Int32)) (qmet_3 + r11) qstill_13 qdone_9 qhour_15 qworn_16)))))) := rfl

def f_X1_goOn (qgone : Int32) (qmet : Int32) (qstill : Int32) (qdone : Int32) (qhour : (Nat → Int32)) (qworn : (Nat → Int32)) (qsquare : (Nat → Int32)) (qunder : (Nat → Int32)) (ppa : Int32) (ppe : Int32) (pwo : Int32) (pkind : (Nat → Int32)) (pwsq : (Nat → Int32)) (pwhr : (Nat → Int32)) (n : Int32) : Option (Int32 × Int32 × Int32 × Int32 × (Nat → Int32) × (Nat → Int32)) := (f_X1_goOn_L2 n qsquare qunder ppe pwo pwsq pwhr ppa pkind (fun (v1 : Int32) (qgone_2 : Int32) (qmet_3 : Int32) (qstill_4 : Int32) (qdone_5 : Int32) (qhour_6 : (Nat → Int32)) (qworn_7 : (Nat → Int32)) => (some (qgone_2, qmet_3, qstill_4, qdone_5, qhour_6, qworn_7))) 20000 (0 : Int32) qgone qmet qstill qdone qhour qworn)

def rm_X1_goOn : Room := { frames := 5, cells := 0, slots := 0, locals := 111 }

theorem pd_X1_goOn : yX1_goOn.cls ≠ "java/lang/invoke/MethodHandle" ∧ yX1_goOn.cls ≠ "java/lang/invoke/VarHandle" ∧ (parseMethodDescriptor yX1_goOn.desc).map (fun d => d.parameters.length) = some 1 := by decide +kernel

set_option maxHeartbeats 4000000 in
set_option maxRecDepth 100000 in
theorem c_X1_goOn (l : Launch) (D : va_G) (cI cC cM : ClassId) (aq aqh aqw aqs aqu ap apk apq apr : Nat) (qgone : Int32) (qmet : Int32) (qstill : Int32) (qdone : Int32) (qhour : (Nat → Int32)) (qworn : (Nat → Int32)) (qsquare : (Nat → Int32)) (qunder : (Nat → Int32)) (psq : Int32) (ppa : Int32) (ppe : Int32) (pwo : Int32) (pkind : (Nat → Int32)) (pwsq : (Nat → Int32)) (pwhr : (Nat → Int32)) (n : Int32) (qgone' : Int32) (qmet' : Int32) (qstill' : Int32) (qdone' : Int32) (qhour' : (Nat → Int32)) (qworn' : (Nat → Int32)) (hF : f_X1_goOn qgone qmet qstill qdone qhour qworn qsquare qunder ppa ppe pwo pkind pwsq pwhr n = some (qgone', qmet', qstill', qdone', qhour', qworn')) : CV l D cI cC cM yX1_goOn wsX1_goOn rm_X1_goOn [.ref aq, .int n] [(aq, .inr (1, [.ref ap, .int qgone, .int qmet, .int qstill, .int qdone, .ref aqh, .ref aqw, .ref aqs, .ref aqu])), (aqh, .inl (cI, 6, .inl qhour)), (aqw, .inl (cI, 6, .inl qworn)), (aqs, .inl (cI, 5, .inl qsquare)), (aqu, .inl (cI, 5, .inl qunder)), (ap, .inr (2, [.int psq, .int ppa, .int ppe, .int pwo, .ref apk, .ref apq, .ref apr])), (apk, .inl (cI, 6, .inl pkind)), (apq, .inl (cI, 6, .inl pwsq)), (apr, .inl (cI, 6, .inl pwhr))] [(aq, .inr (1, [.ref ap, .int qgone', .int qmet', .int qstill', .int qdone', .ref aqh, .ref aqw, .ref aqs, .ref aqu])), (aqh, .inl (cI, 6, .inl qhour')), (aqw, .inl (cI, 6, .inl qworn')), (aqs, .inl (cI, 5, .inl qsquare)), (aqu, .inl (cI, 5, .inl qunder)), (ap, .inr (2, [.int psq, .int ppa, .int ppe, .int pwo, .ref apk, .ref apq, .ref apr])), (apk, .inl (cI, 6, .inl pkind)), (apq, .inl (cI, 6, .inl pwsq)), (apr, .inl (cI, 6, .inl pwhr))] := by
  refine CV.of (cc := cX1_goOn) (nL := 3) (ret := none) (by decide) rfl (Nat.le_of_ble_eq_true rfl) ?_
  intro p e s m args below meth c A hC hP hD hS ls hl
  obtain ⟨hx, hb, hml, hown, hts, hr, hlk, hG, hA⟩ := id hC
  have hown : s.vm.findClass RX1 = some m.cls := hown
  have hK := hG.1
  have hl : lv_has ls 3 [(0, .ref aq), (1, .int n)] := hl
  have k_f32 := hts (.fieldLink RX1 32 "ParasolHours$Moment" "met" "I") (List.mem_of_getElem? (i := 1) rfl)
  have k_f28 := hts (.fieldLink RX1 28 "ParasolHours$Moment" "gone" "I") (List.mem_of_getElem? (i := 2) rfl)
  have iX1 : ∀ w ∈ wsX10, w ∈ wsX1_goOn := by decide +kernel
  obtain ⟨Q, hQ⟩ : ∃ Q, Q = MQ below (QV D [(aq, .inr (1, [.ref ap, .int qgone', .int qmet', .int qstill', .int qdone', .ref aqh, .ref aqw, .ref aqs, .ref aqu])), (aqh, .inl (cI, 6, .inl qhour')), (aqw, .inl (cI, 6, .inl qworn')), (aqs, .inl (cI, 5, .inl qsquare)), (aqu, .inl (cI, 5, .inl qunder)), (ap, .inr (2, [.int psq, .int ppa, .int ppe, .int pwo, .ref apk, .ref apq, .ref apr])), (apk, .inl (cI, 6, .inl pkind)), (apq, .inl (cI, 6, .inl pwsq)), (apr, .inl (cI, 6, .inl pwhr))] A) args s 0 0 A := ⟨_, rfl⟩
  rw [← hQ]
  unfold f_X1_goOn at hF
  refine lv_iconst (v := (0 : Int32)) hx hb dX1_goOn_0 (by decide) ?_
  refine lv_istore_n (lv' := [(2, .int (0 : Int32)), (0, .ref aq), (1, .int n)]) hx hb dX1_goOn_1 rfl hl (by decide) rfl (fun ls hl => ?_)
  have hL2 : ∀ (k2 : Int32 → Int32 → Int32 → Int32 → Int32 → (Nat → Int32) → (Nat → Int32) → Option (Int32 × Int32 × Int32 × Int32 × (Nat → Int32) × (Nat → Int32))), (∀ (v1 : Int32) (qgone_2 : Int32) (qmet_3 : Int32) (qstill_4 : Int32) (qdone_5 : Int32) (qhour_6 : (Nat → Int32)) (qworn_7 : (Nat → Int32)) (H : Heap) (locs : List Loc), va_P D vwCl [(aq, .inr (1, [.ref ap, .int qgone_2, .int qmet_3, .int qstill_4, .int qdone_5, .ref aqh, .ref aqw, .ref aqs, .ref aqu])), (aqh, .inl (cI, 6, .inl qhour_6)), (aqw, .inl (cI, 6, .inl qworn_7)), (aqs, .inl (cI, 5, .inl qsquare)), (aqu, .inl (cI, 5, .inl qunder)), (ap, .inr (2, [.int psq, .int ppa, .int ppe, .int pwo, .ref apk, .ref apq, .ref apr])), (apk, .inl (cI, 6, .inl pkind)), (apq, .inl (cI, 6, .inl pwsq)), (apr, .inl (cI, 6, .inl pwhr))] H → va_D A [(aq, .inr (1, [.ref ap, .int qgone_2, .int qmet_3, .int qstill_4, .int qdone_5, .ref aqh, .ref aqw, .ref aqs, .ref aqu])), (aqh, .inl (cI, 6, .inl qhour_6)), (aqw, .inl (cI, 6, .inl qworn_7)), (aqs, .inl (cI, 5, .inl qsquare)), (aqu, .inl (cI, 5, .inl qunder)), (ap, .inr (2, [.int psq, .int ppa, .int ppe, .int pwo, .ref apk, .ref apq, .ref apr])), (apk, .inl (cI, 6, .inl pkind)), (apq, .inl (cI, 6, .inl pwsq)), (apr, .inl (cI, 6, .inl pwhr))] → va_S A s.heap H locs → ∀ ls : Array Slot, lv_has ls 3 [] → k2 v1 qgone_2 qmet_3 qstill_4 qdone_5 qhour_6 qworn_7 = some (qgone', qmet', qstill', qdone', qhour', qworn') → W p l e rm_X1_goOn s m args below meth c H locs 0 0 Q (F0 m 48 ls [])) → ∀ (nf2 : Nat) (v1 : Int32) (qgone_2 : Int32) (qmet_3 : Int32) (qstill_4 : Int32) (qdone_5 : Int32) (qhour_6 : (Nat → Int32)) (qworn_7 : (Nat → Int32)) (H : Heap) (locs : List Loc), va_P D vwCl [(aq, .inr (1, [.ref ap, .int qgone_2, .int qmet_3, .int qstill_4, .int qdone_5, .ref aqh, .ref aqw, .ref aqs, .ref aqu])), (aqh, .inl (cI, 6, .inl qhour_6)), (aqw, .inl (cI, 6, .inl qworn_7)), (aqs, .inl (cI, 5, .inl qsquare)), (aqu, .inl (cI, 5, .inl qunder)), (ap, .inr (2, [.int psq, .int ppa, .int ppe, .int pwo, .ref apk, .ref apq, .ref apr])), (apk, .inl (cI, 6, .inl pkind)), (apq, .inl (cI, 6, .inl pwsq)), (apr, .inl (cI, 6, .inl pwhr))] H → va_D A [(aq, .inr (1, [.ref ap, .int qgone_2, .int qmet_3, .int qstill_4, .int qdone_5, .ref aqh, .ref aqw, .ref aqs, .ref aqu])), (aqh, .inl (cI, 6, .inl qhour_6)), (aqw, .inl (cI, 6, .inl qworn_7)), (aqs, .inl (cI, 5, .inl qsquare)), (aqu, .inl (cI, 5, .inl qunder)), (ap, .inr (2, [.int psq, .int ppa, .int ppe, .int pwo, .ref apk, .ref apq, .ref apr])), (apk, .inl (cI, 6, .inl pkind)), (apq, .inl (cI, 6, .inl pwsq)), (apr, .inl (cI, 6, .inl pwhr))] → va_S A s.heap H locs → ∀ ls : Array Slot, lv_has ls 3 [(2, .int v1), (0, .ref aq), (1, .int n)] → f_X1_goOn_L2 n qsquare qunder ppe pwo pwsq pwhr ppa pkind k2 nf2 v1 qgone_2 qmet_3 qstill_4 qdone_5 qhour_6 qworn_7 = some (qgone', qmet', qstill', qdone', qhour', qworn') → W p l e rm_X1_goOn s m args below meth c H locs 0 0 Q (F0 m 2 ls []) := by
    intro k2 hk2 nf2
    induction nf2 with
    | zero =>
      intro v1 qgone_2 qmet_3 qstill_4 qdone_5 qhour_6 qworn_7 H locs hP hD hS ls hl hF
      rw [f_X1_goOn_L2_0] at hF
      cases hF
    | succ nf2 ih2 =>
      intro v1 qgone_2 qmet_3 qstill_4 qdone_5 qhour_6 qworn_7 H locs hP hD hS ls hl hF
      rw [f_X1_goOn_L2_s] at hF
      refine lv_iload_n hx hb dX1_goOn_2 rfl (lv_at hl 0 rfl) ?_
      refine lv_iload_n hx hb dX1_goOn_3 rfl (lv_at hl 2 rfl) ?_
      refine lv_icmp_ge (tgt := 48) hx hb dX1_goOn_4 (by decide) (fun c8 => ?_) (fun c8 => ?_)
      · have hF := op_pos c8 hF
        exact hk2 v1 qgone_2 qmet_3 qstill_4 qdone_5 qhour_6 qworn_7 _ _ hP hD hS _ (lv_sub hl [] rfl) hF
      · have hF := op_neg c8 hF
        refine lv_aload_n hx hb dX1_goOn_7 rfl (lv_at hl 1 rfl) ?_
        obtain ⟨qdone_9, hb10, hF⟩ := op_bind hF
        refine xVv (As := []) (rest := []) hC hP hD hS [0, 1, 2, 3, 4, 5, 6, 7, 8] (c_X1_doWorks l D cI cC cM aq aqh aqw aqs aqu ap apk apq apr qgone_2 qmet_3 qstill_4 qdone_5 qhour_6 qworn_7 qsquare qunder psq ppa ppe pwo pkind pwsq pwhr qdone_9 hb10) (cwV 0 hts gX1_goOn_X1_doWorks rfl rfl rfl ⟨rfl, pd_X1_doWorks⟩ ⟨Nat.le_of_ble_eq_true rfl, Nat.le_of_ble_eq_true rfl⟩) rfl rfl rfl 0 1 rfl rfl rfl rfl hl.1 rfl (Nat.le_of_ble_eq_true rfl) dX1_goOn_8 ⟨Nat.zero_le _, Nat.zero_le _⟩ (fun H locs hP hD hS => ?_)
        have hP : va_P D vwCl [(aq, .inr (1, [.ref ap, .int qgone_2, .int qmet_3, .int qstill_4, .int qdone_9, .ref aqh, .ref aqw, .ref aqs, .ref aqu])), (aqh, .inl (cI, 6, .inl qhour_6)), (aqw, .inl (cI, 6, .inl qworn_7)), (aqs, .inl (cI, 5, .inl qsquare)), (aqu, .inl (cI, 5, .inl qunder)), (ap, .inr (2, [.int psq, .int ppa, .int ppe, .int pwo, .ref apk, .ref apq, .ref apr])), (apk, .inl (cI, 6, .inl pkind)), (apq, .inl (cI, 6, .inl pwsq)), (apr, .inl (cI, 6, .inl pwhr))] H := hP
        have hD : va_D A [(aq, .inr (1, [.ref ap, .int qgone_2, .int qmet_3, .int qstill_4, .int qdone_9, .ref aqh, .ref aqw, .ref aqs, .ref aqu])), (aqh, .inl (cI, 6, .inl qhour_6)), (aqw, .inl (cI, 6, .inl qworn_7)), (aqs, .inl (cI, 5, .inl qsquare)), (aqu, .inl (cI, 5, .inl qunder)), (ap, .inr (2, [.int psq, .int ppa, .int ppe, .int pwo, .ref apk, .ref apq, .ref apr])), (apk, .inl (cI, 6, .inl pkind)), (apq, .inl (cI, 6, .inl pwsq)), (apr, .inl (cI, 6, .inl pwhr))] := hD
        refine lv_aload_n hx hb dX1_goOn_11 rfl (lv_at hl 1 rfl) ?_
        refine lv_dup hx hb dX1_goOn_12 rfl ?_
        refine va_get (D := D) (ci := 1) (v := .int qmet_3) (C := RX1) (T := TX1) (N := 9) hx hb hts iX1 hown hK hP 0 rfl rfl 2 (by decide) k_f32 (fun _ h9 => h9) rfl dX1_goOn_13 ?_
        refine lv_aload_n hx hb dX1_goOn_16 rfl (lv_at hl 1 rfl) ?_
        obtain ⟨r11, hb12, hF⟩ := op_bind hF
        refine xVr (As := []) (rest := [.int qmet_3, .ref aq]) hC hP hD hS [0, 1, 2, 3, 4, 5, 6, 7, 8] (c_X1_appointments l D cI cC cM aq aqh aqw aqs aqu ap apk apq apr qgone_2 qmet_3 qstill_4 qdone_9 qhour_6 qworn_7 qsquare qunder psq ppa ppe pwo pkind pwsq pwhr r11 hb12) (cwV 0 hts gX1_goOn_X1_appointments rfl rfl rfl ⟨rfl, pd_X1_appointments⟩ ⟨Nat.le_of_ble_eq_true rfl, Nat.le_of_ble_eq_true rfl⟩) rfl rfl 0 1 rfl rfl rfl rfl hl.1 rfl (Nat.le_of_ble_eq_true rfl) dX1_goOn_17 ⟨Nat.zero_le _, Nat.zero_le _⟩ (fun H locs hP hS => ?_)
        refine lv_iadd hx hb dX1_goOn_20 ?_
        refine va_put (D := D) (ci := 1) (v := .int (qmet_3 + r11)) (ty := .int) (C := RX1) (T := TX1) (N := 9) hx hb hts iX1 tyX1 tyX1_ok nmX1 hown hK hP hD hS 0 rfl rfl 2 (by decide) k_f32 (fun _ h9 => h9) rfl (by decide +kernel) rfl rfl (Nat.le_of_ble_eq_true rfl) dX1_goOn_21 (fun H locs hP hD hS => ?_)
        have hP : va_P D vwCl [(aq, .inr (1, [.ref ap, .int qgone_2, .int (qmet_3 + r11), .int qstill_4, .int qdone_9, .ref aqh, .ref aqw, .ref aqs, .ref aqu])), (aqh, .inl (cI, 6, .inl qhour_6)), (aqw, .inl (cI, 6, .inl qworn_7)), (aqs, .inl (cI, 5, .inl qsquare)), (aqu, .inl (cI, 5, .inl qunder)), (ap, .inr (2, [.int psq, .int ppa, .int ppe, .int pwo, .ref apk, .ref apq, .ref apr])), (apk, .inl (cI, 6, .inl pkind)), (apq, .inl (cI, 6, .inl pwsq)), (apr, .inl (cI, 6, .inl pwhr))] H := hP
        have hD : va_D A [(aq, .inr (1, [.ref ap, .int qgone_2, .int (qmet_3 + r11), .int qstill_4, .int qdone_9, .ref aqh, .ref aqw, .ref aqs, .ref aqu])), (aqh, .inl (cI, 6, .inl qhour_6)), (aqw, .inl (cI, 6, .inl qworn_7)), (aqs, .inl (cI, 5, .inl qsquare)), (aqu, .inl (cI, 5, .inl qunder)), (ap, .inr (2, [.int psq, .int ppa, .int ppe, .int pwo, .ref apk, .ref apq, .ref apr])), (apk, .inl (cI, 6, .inl pkind)), (apq, .inl (cI, 6, .inl pwsq)), (apr, .inl (cI, 6, .inl pwhr))] := hD
        refine lv_aload_n hx hb dX1_goOn_24 rfl (lv_at hl 1 rfl) ?_
        obtain ⟨qstill_13, hb14, hF⟩ := op_bind hF
        refine xVv (As := []) (rest := []) hC hP hD hS [0, 1, 2, 3, 4, 5, 6, 7, 8] (c_X1_standStill l D cI cC cM aq aqh aqw aqs aqu ap apk apq apr qgone_2 (qmet_3 + r11) qstill_4 qdone_9 qhour_6 qworn_7 qsquare qunder psq ppa ppe pwo pkind pwsq pwhr qstill_13 hb14) (cwV 0 hts gX1_goOn_X1_standStill rfl rfl rfl ⟨rfl, pd_X1_standStill⟩ ⟨Nat.le_of_ble_eq_true rfl, Nat.le_of_ble_eq_true rfl⟩) rfl rfl rfl 0 1 rfl rfl rfl rfl hl.1 rfl (Nat.le_of_ble_eq_true rfl) dX1_goOn_25 ⟨Nat.zero_le _, Nat.zero_le _⟩ (fun H locs hP hD hS => ?_)
        have hP : va_P D vwCl [(aq, .inr (1, [.ref ap, .int qgone_2, .int (qmet_3 + r11), .int qstill_13, .int qdone_9, .ref aqh, .ref aqw, .ref aqs, .ref aqu])), (aqh, .inl (cI, 6, .inl qhour_6)), (aqw, .inl (cI, 6, .inl qworn_7)), (aqs, .inl (cI, 5, .inl qsquare)), (aqu, .inl (cI, 5, .inl qunder)), (ap, .inr (2, [.int psq, .int ppa, .int ppe, .int pwo, .ref apk, .ref apq, .ref apr])), (apk, .inl (cI, 6, .inl pkind)), (apq, .inl (cI, 6, .inl pwsq)), (apr, .inl (cI, 6, .inl pwhr))] H := hP
        have hD : va_D A [(aq, .inr (1, [.ref ap, .int qgone_2, .int (qmet_3 + r11), .int qstill_13, .int qdone_9, .ref aqh, .ref aqw, .ref aqs, .ref aqu])), (aqh, .inl (cI, 6, .inl qhour_6)), (aqw, .inl (cI, 6, .inl qworn_7)), (aqs, .inl (cI, 5, .inl qsquare)), (aqu, .inl (cI, 5, .inl qunder)), (ap, .inr (2, [.int psq, .int ppa, .int ppe, .int pwo, .ref apk, .ref apq, .ref apr])), (apk, .inl (cI, 6, .inl pkind)), (apq, .inl (cI, 6, .inl pwsq)), (apr, .inl (cI, 6, .inl pwhr))] := hD
        refine lv_aload_n hx hb dX1_goOn_28 rfl (lv_at hl 1 rfl) ?_
        obtain ⟨⟨qhour_15, qworn_16⟩, hb17, hF⟩ := op_bind hF
        refine xVv (As := []) (rest := []) hC hP hD hS [0, 1, 2, 3, 4, 5, 6, 7, 8] (c_X1_turnParasols l D cI cC cM aq aqh aqw aqs aqu ap apk apq apr qgone_2 (qmet_3 + r11) qstill_13 qdone_9 qhour_6 qworn_7 qsquare qunder psq ppa ppe pwo pkind pwsq pwhr qhour_15 qworn_16 hb17) (cwV 0 hts gX1_goOn_X1_turnParasols rfl rfl rfl ⟨rfl, pd_X1_turnParasols⟩ ⟨Nat.le_of_ble_eq_true rfl, Nat.le_of_ble_eq_true rfl⟩) rfl rfl rfl 0 1 rfl rfl rfl rfl hl.1 rfl (Nat.le_of_ble_eq_true rfl) dX1_goOn_29 ⟨Nat.zero_le _, Nat.zero_le _⟩ (fun H locs hP hD hS => ?_)
        have hP : va_P D vwCl [(aq, .inr (1, [.ref ap, .int qgone_2, .int (qmet_3 + r11), .int qstill_13, .int qdone_9, .ref aqh, .ref aqw, .ref aqs, .ref aqu])), (aqh, .inl (cI, 6, .inl qhour_15)), (aqw, .inl (cI, 6, .inl qworn_16)), (aqs, .inl (cI, 5, .inl qsquare)), (aqu, .inl (cI, 5, .inl qunder)), (ap, .inr (2, [.int psq, .int ppa, .int ppe, .int pwo, .ref apk, .ref apq, .ref apr])), (apk, .inl (cI, 6, .inl pkind)), (apq, .inl (cI, 6, .inl pwsq)), (apr, .inl (cI, 6, .inl pwhr))] H := hP
        have hD : va_D A [(aq, .inr (1, [.ref ap, .int qgone_2, .int (qmet_3 + r11), .int qstill_13, .int qdone_9, .ref aqh, .ref aqw, .ref aqs, .ref aqu])), (aqh, .inl (cI, 6, .inl qhour_15)), (aqw, .inl (cI, 6, .inl qworn_16)), (aqs, .inl (cI, 5, .inl qsquare)), (aqu, .inl (cI, 5, .inl qunder)), (ap, .inr (2, [.int psq, .int ppa, .int ppe, .int pwo, .ref apk, .ref apq, .ref apr])), (apk, .inl (cI, 6, .inl pkind)), (apq, .inl (cI, 6, .inl pwsq)), (apr, .inl (cI, 6, .inl pwhr))] := hD
        refine lv_aload_n hx hb dX1_goOn_32 rfl (lv_at hl 1 rfl) ?_
        refine lv_dup hx hb dX1_goOn_33 rfl ?_
        refine va_get (D := D) (ci := 1) (v := .int qgone_2) (C := RX1) (T := TX1) (N := 9) hx hb hts iX1 hown hK hP 0 rfl rfl 1 (by decide) k_f28 (fun _ h9 => h9) rfl dX1_goOn_34 ?_
        refine lv_iconst (v := (1 : Int32)) hx hb dX1_goOn_37 (by decide) ?_
        refine lv_iadd hx hb dX1_goOn_38 ?_
        refine va_put (D := D) (ci := 1) (v := .int (qgone_2 + (1 : Int32))) (ty := .int) (C := RX1) (T := TX1) (N := 9) hx hb hts iX1 tyX1 tyX1_ok nmX1 hown hK hP hD hS 0 rfl rfl 1 (by decide) k_f28 (fun _ h9 => h9) rfl (by decide +kernel) rfl rfl (Nat.le_of_ble_eq_true rfl) dX1_goOn_39 (fun H locs hP hD hS => ?_)
        have hP : va_P D vwCl [(aq, .inr (1, [.ref ap, .int (qgone_2 + (1 : Int32)), .int (qmet_3 + r11), .int qstill_13, .int qdone_9, .ref aqh, .ref aqw, .ref aqs, .ref aqu])), (aqh, .inl (cI, 6, .inl qhour_15)), (aqw, .inl (cI, 6, .inl qworn_16)), (aqs, .inl (cI, 5, .inl qsquare)), (aqu, .inl (cI, 5, .inl qunder)), (ap, .inr (2, [.int psq, .int ppa, .int ppe, .int pwo, .ref apk, .ref apq, .ref apr])), (apk, .inl (cI, 6, .inl pkind)), (apq, .inl (cI, 6, .inl pwsq)), (apr, .inl (cI, 6, .inl pwhr))] H := hP
        have hD : va_D A [(aq, .inr (1, [.ref ap, .int (qgone_2 + (1 : Int32)), .int (qmet_3 + r11), .int qstill_13, .int qdone_9, .ref aqh, .ref aqw, .ref aqs, .ref aqu])), (aqh, .inl (cI, 6, .inl qhour_15)), (aqw, .inl (cI, 6, .inl qworn_16)), (aqs, .inl (cI, 5, .inl qsquare)), (aqu, .inl (cI, 5, .inl qunder)), (ap, .inr (2, [.int psq, .int ppa, .int ppe, .int pwo, .ref apk, .ref apq, .ref apr])), (apk, .inl (cI, 6, .inl pkind)), (apq, .inl (cI, 6, .inl pwsq)), (apr, .inl (cI, 6, .inl pwhr))] := hD
        refine lv_iinc (v := (v1 + (1 : Int32))) (lv' := [(2, .int (v1 + (1 : Int32))), (0, .ref aq), (1, .int n)]) hx hb dX1_goOn_42 hl (k := 0) rfl (by first | rfl | decide) (by decide) rfl (fun ls hl => ?_)
        refine lv_goto (tgt := 2) hx hb dX1_goOn_45 (by decide) ?_
        exact ih2 (v1 + (1 : Int32)) (qgone_2 + (1 : Int32)) (qmet_3 + r11) qstill_13 qdone_9 qhour_15 qworn_16 _ _ hP hD hS _ (lv_sub hl [0, 1, 2] rfl) hF
  refine hL2 _ (fun v1 qgone_2 qmet_3 qstill_4 qdone_5 qhour_6 qworn_7 H locs hP hD hS ls hl hF => ?_) 20000 (0 : Int32) qgone qmet qstill qdone qhour qworn _ _ hP hD hS _ (lv_sub hl [0, 1, 2] rfl) hF
  cases hF
  rw [hQ]
  exact xrv hC hP hS dX1_goOn_48

def f_X1_hoursUntil_L2 (qgone : Int32) (qhour : (Nat → Int32)) (pkind : (Nat → Int32)) (u : Int32) (h : Int32) (k2 : Int32 → Option Int32) : Nat → Int32 → Option Int32
  | 0, _ => none
  | nf2 + 1, v1 => (if (48 : Int32) < v1 then (k2 v1) else (Option.bind (f_X1_hourBehind qgone qhour pkind u v1) fun r3 => (if r3 = h then (some v1) else (f_X1_hoursUntil_L2 qgone qhour pkind u h k2 nf2 (v1 + (1 : Int32))))))
theorem f_X1_hoursUntil_L2_0 (qgone : Int32) (qhour : (Nat → Int32)) (pkind : (Nat → Int32)) (u : Int32) (h : Int32) (k2 : Int32 → Option Int32) (v1 : Int32) : f_X1_hoursUntil_L2 qgone qhour pkind u h k2 0 v1 = none := rfl
theorem f_X1_hoursUntil_L2_s (qgone : Int32) (qhour : (Nat → Int32)) (pkind : (Nat → Int32)) (u : Int32) (h : Int32) (k2 : Int32 → Option Int32) (nf2 : Nat) (v1 : Int32) : f_X1_hoursUntil_L2 qgone qhour pkind u h k2 (nf2 + 1) v1 = (if (48 : Int32) < v1 then (k2 v1) else (Option.bind (f_X1_hourBehind qgone qhour pkind u v1) fun r3 => (if r3 = h then (some v1) else (f_X1_hoursUntil_L2 qgone qhour pkind u h k2 nf2 (v1 + (1 : Int32)))))) := rfl

def f_X1_hoursUntil (qgone : Int32) (qhour : (Nat → Int32)) (pkind : (Nat → Int32)) (u : Int32) (h : Int32) : Option Int32 := (f_X1_hoursUntil_L2 qgone qhour pkind u h (fun (v1 : Int32) => (some (-4 : Int32))) 20000 (0 : Int32))

def rm_X1_hoursUntil : Room := { frames := 4, cells := 0, slots := 0, locals := 89 }

theorem pd_X1_hoursUntil : yX1_hoursUntil.cls ≠ "java/lang/invoke/MethodHandle" ∧ yX1_hoursUntil.cls ≠ "java/lang/invoke/VarHandle" ∧ (parseMethodDescriptor yX1_hoursUntil.desc).map (fun d => d.parameters.length) = some 2 := by decide +kernel

set_option maxHeartbeats 4000000 in
set_option maxRecDepth 100000 in
theorem c_X1_hoursUntil (l : Launch) (D : va_G) (cI cC cM : ClassId) (aq aqh aqw aqs aqu ap apk apq apr : Nat) (qgone : Int32) (qmet : Int32) (qstill : Int32) (qdone : Int32) (qhour : (Nat → Int32)) (qworn : (Nat → Int32)) (qsquare : (Nat → Int32)) (qunder : (Nat → Int32)) (psq : Int32) (ppa : Int32) (ppe : Int32) (pwo : Int32) (pkind : (Nat → Int32)) (pwsq : (Nat → Int32)) (pwhr : (Nat → Int32)) (u : Int32) (h : Int32) (rr : Int32) (hF : f_X1_hoursUntil qgone qhour pkind u h = some rr) : CI l D cI cC cM yX1_hoursUntil wsX1_hoursUntil rm_X1_hoursUntil [.ref aq, .int u, .int h] [(aq, .inr (1, [.ref ap, .int qgone, .int qmet, .int qstill, .int qdone, .ref aqh, .ref aqw, .ref aqs, .ref aqu])), (aqh, .inl (cI, 6, .inl qhour)), (aqw, .inl (cI, 6, .inl qworn)), (aqs, .inl (cI, 5, .inl qsquare)), (aqu, .inl (cI, 5, .inl qunder)), (ap, .inr (2, [.int psq, .int ppa, .int ppe, .int pwo, .ref apk, .ref apq, .ref apr])), (apk, .inl (cI, 6, .inl pkind)), (apq, .inl (cI, 6, .inl pwsq)), (apr, .inl (cI, 6, .inl pwhr))] [(aq, .inr (1, [.ref ap, .int qgone, .int qmet, .int qstill, .int qdone, .ref aqh, .ref aqw, .ref aqs, .ref aqu])), (aqh, .inl (cI, 6, .inl qhour)), (aqw, .inl (cI, 6, .inl qworn)), (aqs, .inl (cI, 5, .inl qsquare)), (aqu, .inl (cI, 5, .inl qunder)), (ap, .inr (2, [.int psq, .int ppa, .int ppe, .int pwo, .ref apk, .ref apq, .ref apr])), (apk, .inl (cI, 6, .inl pkind)), (apq, .inl (cI, 6, .inl pwsq)), (apr, .inl (cI, 6, .inl pwhr))] rr := by
  refine CI.of (cc := cX1_hoursUntil) (nL := 4) (ret := (some .int)) (by decide) rfl (Nat.le_of_ble_eq_true rfl) ?_
  intro p e s m args below meth c A hC hP hD hS ls hl
  obtain ⟨hx, hb, hml, hown, hts, hr, hlk, hG, hA⟩ := id hC
  have hown : s.vm.findClass RX1 = some m.cls := hown
  have hK := hG.1
  have hl : lv_has ls 4 [(0, .ref aq), (1, .int u), (2, .int h)] := hl
  obtain ⟨Q, hQ⟩ : ∃ Q, Q = MQ below (QI D [(aq, .inr (1, [.ref ap, .int qgone, .int qmet, .int qstill, .int qdone, .ref aqh, .ref aqw, .ref aqs, .ref aqu])), (aqh, .inl (cI, 6, .inl qhour)), (aqw, .inl (cI, 6, .inl qworn)), (aqs, .inl (cI, 5, .inl qsquare)), (aqu, .inl (cI, 5, .inl qunder)), (ap, .inr (2, [.int psq, .int ppa, .int ppe, .int pwo, .ref apk, .ref apq, .ref apr])), (apk, .inl (cI, 6, .inl pkind)), (apq, .inl (cI, 6, .inl pwsq)), (apr, .inl (cI, 6, .inl pwhr))] rr A) args s 0 0 A := ⟨_, rfl⟩
  rw [← hQ]
  unfold f_X1_hoursUntil at hF
  refine lv_iconst (v := (0 : Int32)) hx hb dX1_hoursUntil_0 (by decide) ?_
  refine lv_istore_n (lv' := [(3, .int (0 : Int32)), (0, .ref aq), (1, .int u), (2, .int h)]) hx hb dX1_hoursUntil_1 rfl hl (by decide) rfl (fun ls hl => ?_)
  have hL2 : ∀ (k2 : Int32 → Option Int32), (∀ (v1 : Int32) (H : Heap) (locs : List Loc), va_P D vwCl [(aq, .inr (1, [.ref ap, .int qgone, .int qmet, .int qstill, .int qdone, .ref aqh, .ref aqw, .ref aqs, .ref aqu])), (aqh, .inl (cI, 6, .inl qhour)), (aqw, .inl (cI, 6, .inl qworn)), (aqs, .inl (cI, 5, .inl qsquare)), (aqu, .inl (cI, 5, .inl qunder)), (ap, .inr (2, [.int psq, .int ppa, .int ppe, .int pwo, .ref apk, .ref apq, .ref apr])), (apk, .inl (cI, 6, .inl pkind)), (apq, .inl (cI, 6, .inl pwsq)), (apr, .inl (cI, 6, .inl pwhr))] H → va_D A [(aq, .inr (1, [.ref ap, .int qgone, .int qmet, .int qstill, .int qdone, .ref aqh, .ref aqw, .ref aqs, .ref aqu])), (aqh, .inl (cI, 6, .inl qhour)), (aqw, .inl (cI, 6, .inl qworn)), (aqs, .inl (cI, 5, .inl qsquare)), (aqu, .inl (cI, 5, .inl qunder)), (ap, .inr (2, [.int psq, .int ppa, .int ppe, .int pwo, .ref apk, .ref apq, .ref apr])), (apk, .inl (cI, 6, .inl pkind)), (apq, .inl (cI, 6, .inl pwsq)), (apr, .inl (cI, 6, .inl pwhr))] → va_S A s.heap H locs → ∀ ls : Array Slot, lv_has ls 4 [] → k2 v1 = some rr → W p l e rm_X1_hoursUntil s m args below meth c H locs 0 0 Q (F0 m 26 ls [])) → ∀ (nf2 : Nat) (v1 : Int32) (H : Heap) (locs : List Loc), va_P D vwCl [(aq, .inr (1, [.ref ap, .int qgone, .int qmet, .int qstill, .int qdone, .ref aqh, .ref aqw, .ref aqs, .ref aqu])), (aqh, .inl (cI, 6, .inl qhour)), (aqw, .inl (cI, 6, .inl qworn)), (aqs, .inl (cI, 5, .inl qsquare)), (aqu, .inl (cI, 5, .inl qunder)), (ap, .inr (2, [.int psq, .int ppa, .int ppe, .int pwo, .ref apk, .ref apq, .ref apr])), (apk, .inl (cI, 6, .inl pkind)), (apq, .inl (cI, 6, .inl pwsq)), (apr, .inl (cI, 6, .inl pwhr))] H → va_D A [(aq, .inr (1, [.ref ap, .int qgone, .int qmet, .int qstill, .int qdone, .ref aqh, .ref aqw, .ref aqs, .ref aqu])), (aqh, .inl (cI, 6, .inl qhour)), (aqw, .inl (cI, 6, .inl qworn)), (aqs, .inl (cI, 5, .inl qsquare)), (aqu, .inl (cI, 5, .inl qunder)), (ap, .inr (2, [.int psq, .int ppa, .int ppe, .int pwo, .ref apk, .ref apq, .ref apr])), (apk, .inl (cI, 6, .inl pkind)), (apq, .inl (cI, 6, .inl pwsq)), (apr, .inl (cI, 6, .inl pwhr))] → va_S A s.heap H locs → ∀ ls : Array Slot, lv_has ls 4 [(3, .int v1), (0, .ref aq), (1, .int u), (2, .int h)] → f_X1_hoursUntil_L2 qgone qhour pkind u h k2 nf2 v1 = some rr → W p l e rm_X1_hoursUntil s m args below meth c H locs 0 0 Q (F0 m 2 ls []) := by
    intro k2 hk2 nf2
    induction nf2 with
    | zero =>
      intro v1 H locs hP hD hS ls hl hF
      rw [f_X1_hoursUntil_L2_0] at hF
      cases hF
    | succ nf2 ih2 =>
      intro v1 H locs hP hD hS ls hl hF
      rw [f_X1_hoursUntil_L2_s] at hF
      refine lv_iload_n hx hb dX1_hoursUntil_2 rfl (lv_at hl 0 rfl) ?_
      refine lv_bipush (v := (48 : Int32)) hx hb dX1_hoursUntil_3 (by decide) ?_
      refine lv_icmp_gt (tgt := 26) hx hb dX1_hoursUntil_5 (by decide) (fun c2 => ?_) (fun c2 => ?_)
      · have hF := op_pos c2 hF
        exact hk2 v1 _ _ hP hD hS _ (lv_sub hl [] rfl) hF
      · have hF := op_neg c2 hF
        refine lv_aload_n hx hb dX1_hoursUntil_8 rfl (lv_at hl 1 rfl) ?_
        refine lv_iload_n hx hb dX1_hoursUntil_9 rfl (lv_at hl 2 rfl) ?_
        refine lv_iload_n hx hb dX1_hoursUntil_10 rfl (lv_at hl 0 rfl) ?_
        obtain ⟨r3, hb4, hF⟩ := op_bind hF
        refine xVr (As := [.int u, .int v1]) (rest := []) hC hP hD hS [0, 1, 2, 3, 4, 5, 6, 7, 8] (c_X1_hourBehind l D cI cC cM aq aqh aqw aqs aqu ap apk apq apr qgone qmet qstill qdone qhour qworn qsquare qunder psq ppa ppe pwo pkind pwsq pwhr u v1 r3 hb4) (cwV 2 hts gX1_hoursUntil_X1_hourBehind rfl rfl rfl ⟨rfl, pd_X1_hourBehind⟩ ⟨Nat.le_of_ble_eq_true rfl, Nat.le_of_ble_eq_true rfl⟩) rfl rfl 0 1 rfl rfl rfl rfl hl.1 rfl (Nat.le_of_ble_eq_true rfl) dX1_hoursUntil_11 ⟨Nat.zero_le _, Nat.zero_le _⟩ (fun H locs hP hS => ?_)
        refine lv_iload_n hx hb dX1_hoursUntil_14 rfl (lv_at hl 3 rfl) ?_
        refine lv_icmp_ne (tgt := 20) hx hb dX1_hoursUntil_15 (by decide) (fun c5 => ?_) (fun c5 => ?_)
        · have hF := op_neg c5 hF
          refine lv_iinc (v := (v1 + (1 : Int32))) (lv' := [(3, .int (v1 + (1 : Int32))), (0, .ref aq), (1, .int u), (2, .int h)]) hx hb dX1_hoursUntil_20 hl (k := 0) rfl (by first | rfl | decide) (by decide) rfl (fun ls hl => ?_)
          refine lv_goto (tgt := 2) hx hb dX1_hoursUntil_23 (by decide) ?_
          exact ih2 (v1 + (1 : Int32)) _ _ hP hD hS _ (lv_sub hl [0, 1, 2, 3] rfl) hF
        · have hF := op_pos c5 hF
          refine lv_iload_n hx hb dX1_hoursUntil_18 rfl (lv_at hl 0 rfl) ?_
          cases hF
          rw [hQ]
          exact xri hC hP hS dX1_hoursUntil_19
  refine hL2 _ (fun v1 H locs hP hD hS ls hl hF => ?_) 20000 (0 : Int32) _ _ hP hD hS _ (lv_sub hl [0, 1, 2, 3] rfl) hF
  refine lv_bipush (v := (-4 : Int32)) hx hb dX1_hoursUntil_26 (by decide) ?_
  cases hF
  rw [hQ]
  exact xri hC hP hS dX1_hoursUntil_28

def f_X1_hoursUntilWork (qgone : Int32) (qstill : Int32) (qhour : (Nat → Int32)) (qworn : (Nat → Int32)) (qunder : (Nat → Int32)) (pkind : (Nat → Int32)) (i : Int32) (h : Int32) : Option Int32 := (Option.bind (f_X1_parasolOf qunder i) fun r1 => (Option.bind (f_X1_isStill qstill i) fun r3 => (if r3 = 0 then (if r1 = (-4 : Int32) then (some (-4 : Int32)) else (Option.bind (f_X1_hoursUntil qgone qhour pkind r1 h) fun r7 => (if r7 = (-4 : Int32) then (some (-4 : Int32)) else (Option.bind (f_X1_wornBehind qgone qworn pkind r1 r7) fun r10 => (if (12 : Int32) < r10 then (some (-4 : Int32)) else (some r7)))))) else (some (-4 : Int32)))))

def rm_X1_hoursUntilWork : Room := { frames := 5, cells := 0, slots := 0, locals := 112 }

theorem pd_X1_hoursUntilWork : yX1_hoursUntilWork.cls ≠ "java/lang/invoke/MethodHandle" ∧ yX1_hoursUntilWork.cls ≠ "java/lang/invoke/VarHandle" ∧ (parseMethodDescriptor yX1_hoursUntilWork.desc).map (fun d => d.parameters.length) = some 2 := by decide +kernel

set_option maxHeartbeats 4000000 in
set_option maxRecDepth 100000 in
theorem c_X1_hoursUntilWork (l : Launch) (D : va_G) (cI cC cM : ClassId) (aq aqh aqw aqs aqu ap apk apq apr : Nat) (qgone : Int32) (qmet : Int32) (qstill : Int32) (qdone : Int32) (qhour : (Nat → Int32)) (qworn : (Nat → Int32)) (qsquare : (Nat → Int32)) (qunder : (Nat → Int32)) (psq : Int32) (ppa : Int32) (ppe : Int32) (pwo : Int32) (pkind : (Nat → Int32)) (pwsq : (Nat → Int32)) (pwhr : (Nat → Int32)) (i : Int32) (h : Int32) (rr : Int32) (hF : f_X1_hoursUntilWork qgone qstill qhour qworn qunder pkind i h = some rr) : CI l D cI cC cM yX1_hoursUntilWork wsX1_hoursUntilWork rm_X1_hoursUntilWork [.ref aq, .int i, .int h] [(aq, .inr (1, [.ref ap, .int qgone, .int qmet, .int qstill, .int qdone, .ref aqh, .ref aqw, .ref aqs, .ref aqu])), (aqh, .inl (cI, 6, .inl qhour)), (aqw, .inl (cI, 6, .inl qworn)), (aqs, .inl (cI, 5, .inl qsquare)), (aqu, .inl (cI, 5, .inl qunder)), (ap, .inr (2, [.int psq, .int ppa, .int ppe, .int pwo, .ref apk, .ref apq, .ref apr])), (apk, .inl (cI, 6, .inl pkind)), (apq, .inl (cI, 6, .inl pwsq)), (apr, .inl (cI, 6, .inl pwhr))] [(aq, .inr (1, [.ref ap, .int qgone, .int qmet, .int qstill, .int qdone, .ref aqh, .ref aqw, .ref aqs, .ref aqu])), (aqh, .inl (cI, 6, .inl qhour)), (aqw, .inl (cI, 6, .inl qworn)), (aqs, .inl (cI, 5, .inl qsquare)), (aqu, .inl (cI, 5, .inl qunder)), (ap, .inr (2, [.int psq, .int ppa, .int ppe, .int pwo, .ref apk, .ref apq, .ref apr])), (apk, .inl (cI, 6, .inl pkind)), (apq, .inl (cI, 6, .inl pwsq)), (apr, .inl (cI, 6, .inl pwhr))] rr := by
  refine CI.of (cc := cX1_hoursUntilWork) (nL := 5) (ret := (some .int)) (by decide) rfl (Nat.le_of_ble_eq_true rfl) ?_
  intro p e s m args below meth c A hC hP hD hS ls hl
  obtain ⟨hx, hb, hml, hown, hts, hr, hlk, hG, hA⟩ := id hC
  have hown : s.vm.findClass RX1 = some m.cls := hown
  have hK := hG.1
  have hl : lv_has ls 5 [(0, .ref aq), (1, .int i), (2, .int h)] := hl
  obtain ⟨Q, hQ⟩ : ∃ Q, Q = MQ below (QI D [(aq, .inr (1, [.ref ap, .int qgone, .int qmet, .int qstill, .int qdone, .ref aqh, .ref aqw, .ref aqs, .ref aqu])), (aqh, .inl (cI, 6, .inl qhour)), (aqw, .inl (cI, 6, .inl qworn)), (aqs, .inl (cI, 5, .inl qsquare)), (aqu, .inl (cI, 5, .inl qunder)), (ap, .inr (2, [.int psq, .int ppa, .int ppe, .int pwo, .ref apk, .ref apq, .ref apr])), (apk, .inl (cI, 6, .inl pkind)), (apq, .inl (cI, 6, .inl pwsq)), (apr, .inl (cI, 6, .inl pwhr))] rr A) args s 0 0 A := ⟨_, rfl⟩
  rw [← hQ]
  unfold f_X1_hoursUntilWork at hF
  refine lv_aload_n hx hb dX1_hoursUntilWork_0 rfl (lv_at hl 0 rfl) ?_
  refine lv_iload_n hx hb dX1_hoursUntilWork_1 rfl (lv_at hl 1 rfl) ?_
  obtain ⟨r1, hb2, hF⟩ := op_bind hF
  refine xVr (As := [.int i]) (rest := []) hC hP hD hS [0, 1, 2, 3, 4, 5, 6, 7, 8] (c_X1_parasolOf l D cI cC cM aq aqh aqw aqs aqu ap apk apq apr qgone qmet qstill qdone qhour qworn qsquare qunder psq ppa ppe pwo pkind pwsq pwhr i r1 hb2) (cwV 1 hts gX1_hoursUntilWork_X1_parasolOf rfl rfl rfl ⟨rfl, pd_X1_parasolOf⟩ ⟨Nat.le_of_ble_eq_true rfl, Nat.le_of_ble_eq_true rfl⟩) rfl rfl 0 1 rfl rfl rfl rfl hl.1 rfl (Nat.le_of_ble_eq_true rfl) dX1_hoursUntilWork_2 ⟨Nat.zero_le _, Nat.zero_le _⟩ (fun H locs hP hS => ?_)
  refine lv_istore_n (lv' := [(3, .int r1), (0, .ref aq), (1, .int i), (2, .int h)]) hx hb dX1_hoursUntilWork_5 rfl hl (by decide) rfl (fun ls hl => ?_)
  refine lv_aload_n hx hb dX1_hoursUntilWork_6 rfl (lv_at hl 1 rfl) ?_
  refine lv_iload_n hx hb dX1_hoursUntilWork_7 rfl (lv_at hl 2 rfl) ?_
  obtain ⟨r3, hb4, hF⟩ := op_bind hF
  refine xVr (As := [.int i]) (rest := []) hC hP hD hS [0, 1, 2, 3, 4, 5, 6, 7, 8] (c_X1_isStill l D cI cC cM aq aqh aqw aqs aqu ap apk apq apr qgone qmet qstill qdone qhour qworn qsquare qunder psq ppa ppe pwo pkind pwsq pwhr i r3 hb4) (cwV 1 hts gX1_hoursUntilWork_X1_isStill rfl rfl rfl ⟨rfl, pd_X1_isStill⟩ ⟨Nat.le_of_ble_eq_true rfl, Nat.le_of_ble_eq_true rfl⟩) rfl rfl 0 1 rfl rfl rfl rfl hl.1 rfl (Nat.le_of_ble_eq_true rfl) dX1_hoursUntilWork_8 ⟨Nat.zero_le _, Nat.zero_le _⟩ (fun H locs hP hS => ?_)
  refine lv_if_ne (tgt := 20) hx hb dX1_hoursUntilWork_11 (by decide) (fun c5 => ?_) (fun c5 => ?_)
  · have hF := op_neg c5 hF
    refine lv_bipush (v := (-4 : Int32)) hx hb dX1_hoursUntilWork_20 (by decide) ?_
    cases hF
    rw [hQ]
    exact xri hC hP hS dX1_hoursUntilWork_22
  · have hF := op_pos c5 hF
    refine lv_iload_n hx hb dX1_hoursUntilWork_14 rfl (lv_at hl 0 rfl) ?_
    refine lv_bipush (v := (-4 : Int32)) hx hb dX1_hoursUntilWork_15 (by decide) ?_
    refine lv_icmp_ne (tgt := 23) hx hb dX1_hoursUntilWork_17 (by decide) (fun c6 => ?_) (fun c6 => ?_)
    · have hF := op_neg c6 hF
      refine lv_aload_n hx hb dX1_hoursUntilWork_23 rfl (lv_at hl 1 rfl) ?_
      refine lv_iload_n hx hb dX1_hoursUntilWork_24 rfl (lv_at hl 0 rfl) ?_
      refine lv_iload_n hx hb dX1_hoursUntilWork_25 rfl (lv_at hl 3 rfl) ?_
      obtain ⟨r7, hb8, hF⟩ := op_bind hF
      refine xVr (As := [.int r1, .int h]) (rest := []) hC hP hD hS [0, 1, 2, 3, 4, 5, 6, 7, 8] (c_X1_hoursUntil l D cI cC cM aq aqh aqw aqs aqu ap apk apq apr qgone qmet qstill qdone qhour qworn qsquare qunder psq ppa ppe pwo pkind pwsq pwhr r1 h r7 hb8) (cwV 2 hts gX1_hoursUntilWork_X1_hoursUntil rfl rfl rfl ⟨rfl, pd_X1_hoursUntil⟩ ⟨Nat.le_of_ble_eq_true rfl, Nat.le_of_ble_eq_true rfl⟩) rfl rfl 0 1 rfl rfl rfl rfl hl.1 rfl (Nat.le_of_ble_eq_true rfl) dX1_hoursUntilWork_26 ⟨Nat.zero_le _, Nat.zero_le _⟩ (fun H locs hP hS => ?_)
      refine lv_istore (lv' := [(4, .int r7), (3, .int r1), (0, .ref aq), (1, .int i), (2, .int h)]) hx hb dX1_hoursUntilWork_29 hl (by decide) rfl (fun ls hl => ?_)
      refine lv_iload hx hb dX1_hoursUntilWork_31 (lv_at hl 0 rfl) ?_
      refine lv_bipush (v := (-4 : Int32)) hx hb dX1_hoursUntilWork_33 (by decide) ?_
      refine lv_icmp_eq (tgt := 55) hx hb dX1_hoursUntilWork_35 (by decide) (fun c9 => ?_) (fun c9 => ?_)
      · have hF := op_pos c9 hF
        refine lv_bipush (v := (-4 : Int32)) hx hb dX1_hoursUntilWork_55 (by decide) ?_
        cases hF
        rw [hQ]
        exact xri hC hP hS dX1_hoursUntilWork_57
      · have hF := op_neg c9 hF
        refine lv_aload_n hx hb dX1_hoursUntilWork_38 rfl (lv_at hl 2 rfl) ?_
        refine lv_iload_n hx hb dX1_hoursUntilWork_39 rfl (lv_at hl 1 rfl) ?_
        refine lv_iload hx hb dX1_hoursUntilWork_40 (lv_at hl 0 rfl) ?_
        obtain ⟨r10, hb11, hF⟩ := op_bind hF
        refine xVr (As := [.int r1, .int r7]) (rest := []) hC hP hD hS [0, 1, 2, 3, 4, 5, 6, 7, 8] (c_X1_wornBehind l D cI cC cM aq aqh aqw aqs aqu ap apk apq apr qgone qmet qstill qdone qhour qworn qsquare qunder psq ppa ppe pwo pkind pwsq pwhr r1 r7 r10 hb11) (cwV 2 hts gX1_hoursUntilWork_X1_wornBehind rfl rfl rfl ⟨rfl, pd_X1_wornBehind⟩ ⟨Nat.le_of_ble_eq_true rfl, Nat.le_of_ble_eq_true rfl⟩) rfl rfl 0 1 rfl rfl rfl rfl hl.1 rfl (Nat.le_of_ble_eq_true rfl) dX1_hoursUntilWork_42 ⟨Nat.zero_le _, Nat.zero_le _⟩ (fun H locs hP hS => ?_)
        refine lv_bipush (v := (12 : Int32)) hx hb dX1_hoursUntilWork_45 (by decide) ?_
        refine lv_icmp_gt (tgt := 55) hx hb dX1_hoursUntilWork_47 (by decide) (fun c12 => ?_) (fun c12 => ?_)
        · have hF := op_pos c12 hF
          refine lv_bipush (v := (-4 : Int32)) hx hb dX1_hoursUntilWork_55 (by decide) ?_
          cases hF
          rw [hQ]
          exact xri hC hP hS dX1_hoursUntilWork_57
        · have hF := op_neg c12 hF
          refine lv_iload hx hb dX1_hoursUntilWork_50 (lv_at hl 0 rfl) ?_
          refine lv_goto (tgt := 57) hx hb dX1_hoursUntilWork_52 (by decide) ?_
          cases hF
          rw [hQ]
          exact xri hC hP hS dX1_hoursUntilWork_57
    · have hF := op_pos c6 hF
      refine lv_bipush (v := (-4 : Int32)) hx hb dX1_hoursUntilWork_20 (by decide) ?_
      cases hF
      rw [hQ]
      exact xri hC hP hS dX1_hoursUntilWork_22

def f_X1_sumOfHours_L4 (ppa : Int32) (i : Int32) (qhour : (Nat → Int32)) (k4 : Int32 → Int32 → Option Int32) : Nat → Int32 → Int32 → Option Int32
  | 0, _, _ => none
  | nf4 + 1, v1, v2 => (if ppa ≤ v2 then (k4 v1 v2) else (Option.bind (f_X7_hasBit i v2) fun r4 => (if r4 = 0 then (f_X1_sumOfHours_L4 ppa i qhour k4 nf4 v1 (v2 + (1 : Int32))) else (Option.bind (f_X1_hourOf qhour v2) fun r7 => (f_X1_sumOfHours_L4 ppa i qhour k4 nf4 (v1 + r7) (v2 + (1 : Int32)))))))
theorem f_X1_sumOfHours_L4_0 (ppa : Int32) (i : Int32) (qhour : (Nat → Int32)) (k4 : Int32 → Int32 → Option Int32) (v1 : Int32) (v2 : Int32) : f_X1_sumOfHours_L4 ppa i qhour k4 0 v1 v2 = none := rfl
theorem f_X1_sumOfHours_L4_s (ppa : Int32) (i : Int32) (qhour : (Nat → Int32)) (k4 : Int32 → Int32 → Option Int32) (nf4 : Nat) (v1 : Int32) (v2 : Int32) : f_X1_sumOfHours_L4 ppa i qhour k4 (nf4 + 1) v1 v2 = (if ppa ≤ v2 then (k4 v1 v2) else (Option.bind (f_X7_hasBit i v2) fun r4 => (if r4 = 0 then (f_X1_sumOfHours_L4 ppa i qhour k4 nf4 v1 (v2 + (1 : Int32))) else (Option.bind (f_X1_hourOf qhour v2) fun r7 => (f_X1_sumOfHours_L4 ppa i qhour k4 nf4 (v1 + r7) (v2 + (1 : Int32))))))) := rfl

def f_X1_sumOfHours (qhour : (Nat → Int32)) (ppa : Int32) (i : Int32) : Option Int32 := (f_X1_sumOfHours_L4 ppa i qhour (fun (v1 : Int32) (v2 : Int32) => (some v1)) 20000 (0 : Int32) (0 : Int32))

def rm_X1_sumOfHours : Room := { frames := 2, cells := 0, slots := 0, locals := 42 }

theorem pd_X1_sumOfHours : yX1_sumOfHours.cls ≠ "java/lang/invoke/MethodHandle" ∧ yX1_sumOfHours.cls ≠ "java/lang/invoke/VarHandle" ∧ (parseMethodDescriptor yX1_sumOfHours.desc).map (fun d => d.parameters.length) = some 1 := by decide +kernel

set_option maxHeartbeats 4000000 in
set_option maxRecDepth 100000 in
theorem c_X1_sumOfHours (l : Launch) (D : va_G) (cI cC cM : ClassId) (aq aqh aqw aqs aqu ap apk apq apr : Nat) (qgone : Int32) (qmet : Int32) (qstill : Int32) (qdone : Int32) (qhour : (Nat → Int32)) (qworn : (Nat → Int32)) (qsquare : (Nat → Int32)) (qunder : (Nat → Int32)) (psq : Int32) (ppa : Int32) (ppe : Int32) (pwo : Int32) (pkind : (Nat → Int32)) (pwsq : (Nat → Int32)) (pwhr : (Nat → Int32)) (i : Int32) (rr : Int32) (hF : f_X1_sumOfHours qhour ppa i = some rr) : CI l D cI cC cM yX1_sumOfHours wsX1_sumOfHours rm_X1_sumOfHours [.ref aq, .int i] [(aq, .inr (1, [.ref ap, .int qgone, .int qmet, .int qstill, .int qdone, .ref aqh, .ref aqw, .ref aqs, .ref aqu])), (aqh, .inl (cI, 6, .inl qhour)), (aqw, .inl (cI, 6, .inl qworn)), (aqs, .inl (cI, 5, .inl qsquare)), (aqu, .inl (cI, 5, .inl qunder)), (ap, .inr (2, [.int psq, .int ppa, .int ppe, .int pwo, .ref apk, .ref apq, .ref apr])), (apk, .inl (cI, 6, .inl pkind)), (apq, .inl (cI, 6, .inl pwsq)), (apr, .inl (cI, 6, .inl pwhr))] [(aq, .inr (1, [.ref ap, .int qgone, .int qmet, .int qstill, .int qdone, .ref aqh, .ref aqw, .ref aqs, .ref aqu])), (aqh, .inl (cI, 6, .inl qhour)), (aqw, .inl (cI, 6, .inl qworn)), (aqs, .inl (cI, 5, .inl qsquare)), (aqu, .inl (cI, 5, .inl qunder)), (ap, .inr (2, [.int psq, .int ppa, .int ppe, .int pwo, .ref apk, .ref apq, .ref apr])), (apk, .inl (cI, 6, .inl pkind)), (apq, .inl (cI, 6, .inl pwsq)), (apr, .inl (cI, 6, .inl pwhr))] rr := by
  refine CI.of (cc := cX1_sumOfHours) (nL := 4) (ret := (some .int)) (by decide) rfl (Nat.le_of_ble_eq_true rfl) ?_
  intro p e s m args below meth c A hC hP hD hS ls hl
  obtain ⟨hx, hb, hml, hown, hts, hr, hlk, hG, hA⟩ := id hC
  have hown : s.vm.findClass RX1 = some m.cls := hown
  have hK := hG.1
  have hl : lv_has ls 4 [(0, .ref aq), (1, .int i)] := hl
  have k_f24 := hts (.fieldLink RX1 24 "ParasolHours$Moment" "plan" "LParasolHours$Plan;") (List.mem_of_getElem? (i := 1) rfl)
  have k_f65 := hts (.fieldLink RX1 65 "ParasolHours$Plan" "parasols" "I") (List.mem_of_getElem? (i := 2) rfl)
  have k_st_hasBit := hts (.static yX7_hasBit) (List.mem_of_getElem? (i := 3) rfl)
  have k_in_X7 := hts (.initialized RX7) (List.mem_of_getElem? (i := 4) rfl)
  have iX1 : ∀ w ∈ wsX10, w ∈ wsX1_sumOfHours := by decide +kernel
  have iX2 : ∀ w ∈ wsX20, w ∈ wsX1_sumOfHours := by decide +kernel
  obtain ⟨Q, hQ⟩ : ∃ Q, Q = MQ below (QI D [(aq, .inr (1, [.ref ap, .int qgone, .int qmet, .int qstill, .int qdone, .ref aqh, .ref aqw, .ref aqs, .ref aqu])), (aqh, .inl (cI, 6, .inl qhour)), (aqw, .inl (cI, 6, .inl qworn)), (aqs, .inl (cI, 5, .inl qsquare)), (aqu, .inl (cI, 5, .inl qunder)), (ap, .inr (2, [.int psq, .int ppa, .int ppe, .int pwo, .ref apk, .ref apq, .ref apr])), (apk, .inl (cI, 6, .inl pkind)), (apq, .inl (cI, 6, .inl pwsq)), (apr, .inl (cI, 6, .inl pwhr))] rr A) args s 0 0 A := ⟨_, rfl⟩
  rw [← hQ]
  unfold f_X1_sumOfHours at hF
  refine lv_iconst (v := (0 : Int32)) hx hb dX1_sumOfHours_0 (by decide) ?_
  refine lv_istore_n (lv' := [(2, .int (0 : Int32)), (0, .ref aq), (1, .int i)]) hx hb dX1_sumOfHours_1 rfl hl (by decide) rfl (fun ls hl => ?_)
  refine lv_iconst (v := (0 : Int32)) hx hb dX1_sumOfHours_2 (by decide) ?_
  refine lv_istore_n (lv' := [(3, .int (0 : Int32)), (2, .int (0 : Int32)), (0, .ref aq), (1, .int i)]) hx hb dX1_sumOfHours_3 rfl hl (by decide) rfl (fun ls hl => ?_)
  have hL4 : ∀ (k4 : Int32 → Int32 → Option Int32), (∀ (v1 : Int32) (v2 : Int32) (H : Heap) (locs : List Loc), va_P D vwCl [(aq, .inr (1, [.ref ap, .int qgone, .int qmet, .int qstill, .int qdone, .ref aqh, .ref aqw, .ref aqs, .ref aqu])), (aqh, .inl (cI, 6, .inl qhour)), (aqw, .inl (cI, 6, .inl qworn)), (aqs, .inl (cI, 5, .inl qsquare)), (aqu, .inl (cI, 5, .inl qunder)), (ap, .inr (2, [.int psq, .int ppa, .int ppe, .int pwo, .ref apk, .ref apq, .ref apr])), (apk, .inl (cI, 6, .inl pkind)), (apq, .inl (cI, 6, .inl pwsq)), (apr, .inl (cI, 6, .inl pwhr))] H → va_D A [(aq, .inr (1, [.ref ap, .int qgone, .int qmet, .int qstill, .int qdone, .ref aqh, .ref aqw, .ref aqs, .ref aqu])), (aqh, .inl (cI, 6, .inl qhour)), (aqw, .inl (cI, 6, .inl qworn)), (aqs, .inl (cI, 5, .inl qsquare)), (aqu, .inl (cI, 5, .inl qunder)), (ap, .inr (2, [.int psq, .int ppa, .int ppe, .int pwo, .ref apk, .ref apq, .ref apr])), (apk, .inl (cI, 6, .inl pkind)), (apq, .inl (cI, 6, .inl pwsq)), (apr, .inl (cI, 6, .inl pwhr))] → va_S A s.heap H locs → ∀ ls : Array Slot, lv_has ls 4 [(2, .int v1)] → k4 v1 v2 = some rr → W p l e rm_X1_sumOfHours s m args below meth c H locs 0 0 Q (F0 m 37 ls [])) → ∀ (nf4 : Nat) (v1 : Int32) (v2 : Int32) (H : Heap) (locs : List Loc), va_P D vwCl [(aq, .inr (1, [.ref ap, .int qgone, .int qmet, .int qstill, .int qdone, .ref aqh, .ref aqw, .ref aqs, .ref aqu])), (aqh, .inl (cI, 6, .inl qhour)), (aqw, .inl (cI, 6, .inl qworn)), (aqs, .inl (cI, 5, .inl qsquare)), (aqu, .inl (cI, 5, .inl qunder)), (ap, .inr (2, [.int psq, .int ppa, .int ppe, .int pwo, .ref apk, .ref apq, .ref apr])), (apk, .inl (cI, 6, .inl pkind)), (apq, .inl (cI, 6, .inl pwsq)), (apr, .inl (cI, 6, .inl pwhr))] H → va_D A [(aq, .inr (1, [.ref ap, .int qgone, .int qmet, .int qstill, .int qdone, .ref aqh, .ref aqw, .ref aqs, .ref aqu])), (aqh, .inl (cI, 6, .inl qhour)), (aqw, .inl (cI, 6, .inl qworn)), (aqs, .inl (cI, 5, .inl qsquare)), (aqu, .inl (cI, 5, .inl qunder)), (ap, .inr (2, [.int psq, .int ppa, .int ppe, .int pwo, .ref apk, .ref apq, .ref apr])), (apk, .inl (cI, 6, .inl pkind)), (apq, .inl (cI, 6, .inl pwsq)), (apr, .inl (cI, 6, .inl pwhr))] → va_S A s.heap H locs → ∀ ls : Array Slot, lv_has ls 4 [(3, .int v2), (2, .int v1), (0, .ref aq), (1, .int i)] → f_X1_sumOfHours_L4 ppa i qhour k4 nf4 v1 v2 = some rr → W p l e rm_X1_sumOfHours s m args below meth c H locs 0 0 Q (F0 m 4 ls []) := by
    intro k4 hk4 nf4
    induction nf4 with
    | zero =>
      intro v1 v2 H locs hP hD hS ls hl hF
      rw [f_X1_sumOfHours_L4_0] at hF
      cases hF
    | succ nf4 ih4 =>
      intro v1 v2 H locs hP hD hS ls hl hF
      rw [f_X1_sumOfHours_L4_s] at hF
      refine lv_iload_n hx hb dX1_sumOfHours_4 rfl (lv_at hl 0 rfl) ?_
      refine lv_aload_n hx hb dX1_sumOfHours_5 rfl (lv_at hl 2 rfl) ?_
      refine va_get (D := D) (ci := 1) (v := .ref ap) (C := RX1) (T := TX1) (N := 9) hx hb hts iX1 hown hK hP 0 rfl rfl 0 (by decide) k_f24 (fun _ h9 => h9) rfl dX1_sumOfHours_6 ?_
      refine va_get (D := D) (ci := 2) (v := .int ppa) (C := RX2) (T := TX2) (N := 7) hx hb hts iX2 hown hK hP 5 rfl rfl 1 (by decide) k_f65 (fun _ h9 => h9) rfl dX1_sumOfHours_9 ?_
      refine lv_icmp_ge (tgt := 37) hx hb dX1_sumOfHours_12 (by decide) (fun c3 => ?_) (fun c3 => ?_)
      · have hF := op_pos c3 hF
        exact hk4 v1 v2 _ _ hP hD hS _ (lv_sub hl [1] rfl) hF
      · have hF := op_neg c3 hF
        refine lv_iload_n hx hb dX1_sumOfHours_15 rfl (lv_at hl 3 rfl) ?_
        refine lv_iload_n hx hb dX1_sumOfHours_16 rfl (lv_at hl 0 rfl) ?_
        obtain ⟨r4, hb5, hF⟩ := op_bind hF
        refine xNr (As := [.int i, .int v2]) (rest := []) hC hP hD hS [] (c_X7_hasBit l D cI cC cM i v2 r4 hb5) ⟨va_cnB 2 hts gX1_sumOfHours_X7_hasBit_n49 rfl rfl rfl (hG.nw 13 rfl) k_in_X7 pd_X7_hasBit ⟨Nat.le_of_ble_eq_true rfl, Nat.le_of_ble_eq_true rfl⟩, k_st_hasBit, trivial⟩ rfl rfl rfl hl.1 rfl (Nat.le_of_ble_eq_true rfl) dX1_sumOfHours_17 ⟨Nat.zero_le _, Nat.zero_le _⟩ (fun H locs hP hS => ?_)
        refine lv_if_eq (tgt := 31) hx hb dX1_sumOfHours_20 (by decide) (fun c6 => ?_) (fun c6 => ?_)
        · have hF := op_pos c6 hF
          refine lv_iinc (v := (v2 + (1 : Int32))) (lv' := [(3, .int (v2 + (1 : Int32))), (2, .int v1), (0, .ref aq), (1, .int i)]) hx hb dX1_sumOfHours_31 hl (k := 0) rfl (by first | rfl | decide) (by decide) rfl (fun ls hl => ?_)
          refine lv_goto (tgt := 4) hx hb dX1_sumOfHours_34 (by decide) ?_
          exact ih4 v1 (v2 + (1 : Int32)) _ _ hP hD hS _ (lv_sub hl [0, 1, 2, 3] rfl) hF
        · have hF := op_neg c6 hF
          refine lv_iload_n hx hb dX1_sumOfHours_23 rfl (lv_at hl 1 rfl) ?_
          refine lv_aload_n hx hb dX1_sumOfHours_24 rfl (lv_at hl 2 rfl) ?_
          refine lv_iload_n hx hb dX1_sumOfHours_25 rfl (lv_at hl 0 rfl) ?_
          obtain ⟨r7, hb8, hF⟩ := op_bind hF
          refine xVr (As := [.int v2]) (rest := [.int v1]) hC hP hD hS [0, 1, 2, 3, 4, 5, 6, 7, 8] (c_X1_hourOf l D cI cC cM aq aqh aqw aqs aqu ap apk apq apr qgone qmet qstill qdone qhour qworn qsquare qunder psq ppa ppe pwo pkind pwsq pwhr v2 r7 hb8) (cwV 1 hts gX1_sumOfHours_X1_hourOf rfl rfl rfl ⟨rfl, pd_X1_hourOf⟩ ⟨Nat.le_of_ble_eq_true rfl, Nat.le_of_ble_eq_true rfl⟩) rfl rfl 0 1 rfl rfl rfl rfl hl.1 rfl (Nat.le_of_ble_eq_true rfl) dX1_sumOfHours_26 ⟨Nat.zero_le _, Nat.zero_le _⟩ (fun H locs hP hS => ?_)
          refine lv_iadd hx hb dX1_sumOfHours_29 ?_
          refine lv_istore_n (lv' := [(2, .int (v1 + r7)), (3, .int v2), (0, .ref aq), (1, .int i)]) hx hb dX1_sumOfHours_30 rfl hl (by decide) rfl (fun ls hl => ?_)
          refine lv_iinc (v := (v2 + (1 : Int32))) (lv' := [(3, .int (v2 + (1 : Int32))), (2, .int (v1 + r7)), (0, .ref aq), (1, .int i)]) hx hb dX1_sumOfHours_31 hl (k := 1) rfl (by first | rfl | decide) (by decide) rfl (fun ls hl => ?_)
          refine lv_goto (tgt := 4) hx hb dX1_sumOfHours_34 (by decide) ?_
          exact ih4 (v1 + r7) (v2 + (1 : Int32)) _ _ hP hD hS _ (lv_sub hl [0, 1, 2, 3] rfl) hF
  refine hL4 _ (fun v1 v2 H locs hP hD hS ls hl hF => ?_) 20000 (0 : Int32) (0 : Int32) _ _ hP hD hS _ (lv_sub hl [0, 1, 2, 3] rfl) hF
  refine lv_iload_n hx hb dX1_sumOfHours_37 rfl (lv_at hl 0 rfl) ?_
  cases hF
  rw [hQ]
  exact xri hC hP hS dX1_sumOfHours_38

def f_X1_fleckedWays_L28 (r3 : Int32) (qhour : (Nat → Int32)) (u : Int32) (r1 : Int32) (h : Int32) (i : Int32) (k28 : Int32 → Int32 → Option Int32) : Nat → Int32 → Int32 → Option Int32
  | 0, _, _ => none
  | nf28 + 1, v5, v6 => (if r3 < v6 then (k28 v5 v6) else (Option.bind (f_X1_hourOf qhour u) fun r8 => (Option.bind (f_X7_turnOf r1) fun r10 => (if (jrem (r8 + (v6 * r10)) (24 : Int32)) = h then (Option.bind (f_X7_choicesOf v6 r3) fun r13 => (Option.bind (f_X7_power i v6) fun r15 => (Option.bind (f_X7_power ((10 : Int32) - i) (r3 - v6)) fun r17 => (f_X1_fleckedWays_L28 r3 qhour u r1 h i k28 nf28 (v5 + ((r13 * r15) * r17)) (v6 + (1 : Int32)))))) else (f_X1_fleckedWays_L28 r3 qhour u r1 h i k28 nf28 v5 (v6 + (1 : Int32)))))))
theorem f_X1_fleckedWays_L28_0 (r3 : Int32) (qhour : (Nat → Int32)) (u : Int32) (r1 : Int32) (h : Int32) (i : Int32) (k28 : Int32 → Int32 → Option Int32) (v5 : Int32) (v6 : Int32) : f_X1_fleckedWays_L28 r3 qhour u r1 h i k28 0 v5 v6 = none := rfl
theorem f_X1_fleckedWays_L28_s (r3 : Int32) (qhour : (Nat → Int32)) (u : Int32) (r1 : Int32) (h : Int32) (i : Int32) (k28 : Int32 → Int32 → Option Int32) (nf28 : Nat) (v5 : Int32) (v6 : Int32) : f_X1_fleckedWays_L28 r3 qhour u r1 h i k28 (nf28 + 1) v5 v6 = (if r3 < v6 then (k28 v5 v6) else (Option.bind (f_X1_hourOf qhour u) fun r8 => (Option.bind (f_X7_turnOf r1) fun r10 => (if (jrem (r8 + (v6 * r10)) (24 : Int32)) = h then (Option.bind (f_X7_choicesOf v6 r3) fun r13 => (Option.bind (f_X7_power i v6) fun r15 => (Option.bind (f_X7_power ((10 : Int32) - i) (r3 - v6)) fun r17 => (f_X1_fleckedWays_L28 r3 qhour u r1 h i k28 nf28 (v5 + ((r13 * r15) * r17)) (v6 + (1 : Int32)))))) else (f_X1_fleckedWays_L28 r3 qhour u r1 h i k28 nf28 v5 (v6 + (1 : Int32))))))) := rfl

def f_X1_fleckedWays (qgone : Int32) (qhour : (Nat → Int32)) (pkind : (Nat → Int32)) (u : Int32) (h : Int32) (n : Int32) (i : Int32) : Option Int32 := (Option.bind (f_X2_kindOf pkind u) fun r1 => (Option.bind (f_X7_turnsOf r1 qgone n) fun r3 => (f_X1_fleckedWays_L28 r3 qhour u r1 h i (fun (v5 : Int32) (v6 : Int32) => (Option.bind (f_X7_power (10 : Int32) (n - r3)) fun r19 => (some (v5 * r19)))) 20000 (0 : Int32) (0 : Int32))))

def rm_X1_fleckedWays : Room := { frames := 2, cells := 0, slots := 0, locals := 43 }

theorem pd_X1_fleckedWays : yX1_fleckedWays.cls ≠ "java/lang/invoke/MethodHandle" ∧ yX1_fleckedWays.cls ≠ "java/lang/invoke/VarHandle" ∧ (parseMethodDescriptor yX1_fleckedWays.desc).map (fun d => d.parameters.length) = some 4 := by decide +kernel

set_option maxHeartbeats 4000000 in
set_option maxRecDepth 100000 in
theorem c_X1_fleckedWays (l : Launch) (D : va_G) (cI cC cM : ClassId) (aq aqh aqw aqs aqu ap apk apq apr : Nat) (qgone : Int32) (qmet : Int32) (qstill : Int32) (qdone : Int32) (qhour : (Nat → Int32)) (qworn : (Nat → Int32)) (qsquare : (Nat → Int32)) (qunder : (Nat → Int32)) (psq : Int32) (ppa : Int32) (ppe : Int32) (pwo : Int32) (pkind : (Nat → Int32)) (pwsq : (Nat → Int32)) (pwhr : (Nat → Int32)) (u : Int32) (h : Int32) (n : Int32) (i : Int32) (rr : Int32) (hF : f_X1_fleckedWays qgone qhour pkind u h n i = some rr) : CI l D cI cC cM yX1_fleckedWays wsX1_fleckedWays rm_X1_fleckedWays [.ref aq, .int u, .int h, .int n, .int i] [(aq, .inr (1, [.ref ap, .int qgone, .int qmet, .int qstill, .int qdone, .ref aqh, .ref aqw, .ref aqs, .ref aqu])), (aqh, .inl (cI, 6, .inl qhour)), (aqw, .inl (cI, 6, .inl qworn)), (aqs, .inl (cI, 5, .inl qsquare)), (aqu, .inl (cI, 5, .inl qunder)), (ap, .inr (2, [.int psq, .int ppa, .int ppe, .int pwo, .ref apk, .ref apq, .ref apr])), (apk, .inl (cI, 6, .inl pkind)), (apq, .inl (cI, 6, .inl pwsq)), (apr, .inl (cI, 6, .inl pwhr))] [(aq, .inr (1, [.ref ap, .int qgone, .int qmet, .int qstill, .int qdone, .ref aqh, .ref aqw, .ref aqs, .ref aqu])), (aqh, .inl (cI, 6, .inl qhour)), (aqw, .inl (cI, 6, .inl qworn)), (aqs, .inl (cI, 5, .inl qsquare)), (aqu, .inl (cI, 5, .inl qunder)), (ap, .inr (2, [.int psq, .int ppa, .int ppe, .int pwo, .ref apk, .ref apq, .ref apr])), (apk, .inl (cI, 6, .inl pkind)), (apq, .inl (cI, 6, .inl pwsq)), (apr, .inl (cI, 6, .inl pwhr))] rr := by
  refine CI.of (cc := cX1_fleckedWays) (nL := 9) (ret := (some .int)) (by decide) rfl (Nat.le_of_ble_eq_true rfl) ?_
  intro p e s m args below meth c A hC hP hD hS ls hl
  obtain ⟨hx, hb, hml, hown, hts, hr, hlk, hG, hA⟩ := id hC
  have hown : s.vm.findClass RX1 = some m.cls := hown
  have hK := hG.1
  have hl : lv_has ls 9 [(0, .ref aq), (1, .int u), (2, .int h), (3, .int n), (4, .int i)] := hl
  have k_f24 := hts (.fieldLink RX1 24 "ParasolHours$Moment" "plan" "LParasolHours$Plan;") (List.mem_of_getElem? (i := 1) rfl)
  have k_f28 := hts (.fieldLink RX1 28 "ParasolHours$Moment" "gone" "I") (List.mem_of_getElem? (i := 2) rfl)
  have k_st_turnsOf := hts (.static yX7_turnsOf) (List.mem_of_getElem? (i := 12) rfl)
  have k_in_X7 := hts (.initialized RX7) (List.mem_of_getElem? (i := 10) rfl)
  have k_st_turnOf := hts (.static yX7_turnOf) (List.mem_of_getElem? (i := 23) rfl)
  have k_st_choicesOf := hts (.static yX7_choicesOf) (List.mem_of_getElem? (i := 25) rfl)
  have k_st_power := hts (.static yX7_power) (List.mem_of_getElem? (i := 27) rfl)
  have iX1 : ∀ w ∈ wsX10, w ∈ wsX1_fleckedWays := by decide +kernel
  obtain ⟨Q, hQ⟩ : ∃ Q, Q = MQ below (QI D [(aq, .inr (1, [.ref ap, .int qgone, .int qmet, .int qstill, .int qdone, .ref aqh, .ref aqw, .ref aqs, .ref aqu])), (aqh, .inl (cI, 6, .inl qhour)), (aqw, .inl (cI, 6, .inl qworn)), (aqs, .inl (cI, 5, .inl qsquare)), (aqu, .inl (cI, 5, .inl qunder)), (ap, .inr (2, [.int psq, .int ppa, .int ppe, .int pwo, .ref apk, .ref apq, .ref apr])), (apk, .inl (cI, 6, .inl pkind)), (apq, .inl (cI, 6, .inl pwsq)), (apr, .inl (cI, 6, .inl pwhr))] rr A) args s 0 0 A := ⟨_, rfl⟩
  rw [← hQ]
  unfold f_X1_fleckedWays at hF
  refine lv_aload_n hx hb dX1_fleckedWays_0 rfl (lv_at hl 0 rfl) ?_
  refine va_get (D := D) (ci := 1) (v := .ref ap) (C := RX1) (T := TX1) (N := 9) hx hb hts iX1 hown hK hP 0 rfl rfl 0 (by decide) k_f24 (fun _ h9 => h9) rfl dX1_fleckedWays_1 ?_
  refine lv_iload_n hx hb dX1_fleckedWays_4 rfl (lv_at hl 1 rfl) ?_
  obtain ⟨r1, hb2, hF⟩ := op_bind hF
  refine xVr (As := [.int u]) (rest := []) hC hP hD hS [5, 6, 7, 8] (c_X2_kindOf l D cI cC cM ap apk apq apr psq ppa ppe pwo pkind pwsq pwhr u r1 hb2) (cwV 1 hts gX1_fleckedWays_X2_kindOf rfl rfl rfl ⟨rfl, pd_X2_kindOf⟩ ⟨Nat.le_of_ble_eq_true rfl, Nat.le_of_ble_eq_true rfl⟩) rfl rfl 5 2 rfl rfl rfl rfl hl.1 rfl (Nat.le_of_ble_eq_true rfl) dX1_fleckedWays_5 ⟨Nat.zero_le _, Nat.zero_le _⟩ (fun H locs hP hS => ?_)
  refine lv_istore (lv' := [(5, .int r1), (0, .ref aq), (1, .int u), (2, .int h), (3, .int n), (4, .int i)]) hx hb dX1_fleckedWays_8 hl (by decide) rfl (fun ls hl => ?_)
  refine lv_iload hx hb dX1_fleckedWays_10 (lv_at hl 0 rfl) ?_
  refine lv_aload_n hx hb dX1_fleckedWays_12 rfl (lv_at hl 1 rfl) ?_
  refine va_get (D := D) (ci := 1) (v := .int qgone) (C := RX1) (T := TX1) (N := 9) hx hb hts iX1 hown hK hP 0 rfl rfl 1 (by decide) k_f28 (fun _ h9 => h9) rfl dX1_fleckedWays_13 ?_
  refine lv_iload_n hx hb dX1_fleckedWays_16 rfl (lv_at hl 4 rfl) ?_
  obtain ⟨r3, hb4, hF⟩ := op_bind hF
  refine xNr (As := [.int r1, .int qgone, .int n]) (rest := []) hC hP hD hS [] (c_X7_turnsOf l D cI cC cM r1 qgone n r3 hb4) ⟨va_cnB 3 hts gX1_fleckedWays_X7_turnsOf_n150 rfl rfl rfl (hG.nw 15 rfl) k_in_X7 pd_X7_turnsOf ⟨Nat.le_of_ble_eq_true rfl, Nat.le_of_ble_eq_true rfl⟩, k_st_turnsOf, trivial⟩ rfl rfl rfl hl.1 rfl (Nat.le_of_ble_eq_true rfl) dX1_fleckedWays_17 ⟨Nat.zero_le _, Nat.zero_le _⟩ (fun H locs hP hS => ?_)
  refine lv_istore (lv' := [(6, .int r3), (5, .int r1), (0, .ref aq), (1, .int u), (2, .int h), (3, .int n), (4, .int i)]) hx hb dX1_fleckedWays_20 hl (by decide) rfl (fun ls hl => ?_)
  refine lv_iconst (v := (0 : Int32)) hx hb dX1_fleckedWays_22 (by decide) ?_
  refine lv_istore (lv' := [(7, .int (0 : Int32)), (6, .int r3), (5, .int r1), (0, .ref aq), (1, .int u), (2, .int h), (3, .int n), (4, .int i)]) hx hb dX1_fleckedWays_23 hl (by decide) rfl (fun ls hl => ?_)
  refine lv_iconst (v := (0 : Int32)) hx hb dX1_fleckedWays_25 (by decide) ?_
  refine lv_istore (lv' := [(8, .int (0 : Int32)), (7, .int (0 : Int32)), (6, .int r3), (5, .int r1), (0, .ref aq), (1, .int u), (2, .int h), (3, .int n), (4, .int i)]) hx hb dX1_fleckedWays_26 hl (by decide) rfl (fun ls hl => ?_)
  have hL28 : ∀ (k28 : Int32 → Int32 → Option Int32), (∀ (v5 : Int32) (v6 : Int32) (H : Heap) (locs : List Loc), va_P D vwCl [(aq, .inr (1, [.ref ap, .int qgone, .int qmet, .int qstill, .int qdone, .ref aqh, .ref aqw, .ref aqs, .ref aqu])), (aqh, .inl (cI, 6, .inl qhour)), (aqw, .inl (cI, 6, .inl qworn)), (aqs, .inl (cI, 5, .inl qsquare)), (aqu, .inl (cI, 5, .inl qunder)), (ap, .inr (2, [.int psq, .int ppa, .int ppe, .int pwo, .ref apk, .ref apq, .ref apr])), (apk, .inl (cI, 6, .inl pkind)), (apq, .inl (cI, 6, .inl pwsq)), (apr, .inl (cI, 6, .inl pwhr))] H → va_D A [(aq, .inr (1, [.ref ap, .int qgone, .int qmet, .int qstill, .int qdone, .ref aqh, .ref aqw, .ref aqs, .ref aqu])), (aqh, .inl (cI, 6, .inl qhour)), (aqw, .inl (cI, 6, .inl qworn)), (aqs, .inl (cI, 5, .inl qsquare)), (aqu, .inl (cI, 5, .inl qunder)), (ap, .inr (2, [.int psq, .int ppa, .int ppe, .int pwo, .ref apk, .ref apq, .ref apr])), (apk, .inl (cI, 6, .inl pkind)), (apq, .inl (cI, 6, .inl pwsq)), (apr, .inl (cI, 6, .inl pwhr))] → va_S A s.heap H locs → ∀ ls : Array Slot, lv_has ls 9 [(7, .int v5), (6, .int r3), (3, .int n)] → k28 v5 v6 = some rr → W p l e rm_X1_fleckedWays s m args below meth c H locs 0 0 Q (F0 m 96 ls [])) → ∀ (nf28 : Nat) (v5 : Int32) (v6 : Int32) (H : Heap) (locs : List Loc), va_P D vwCl [(aq, .inr (1, [.ref ap, .int qgone, .int qmet, .int qstill, .int qdone, .ref aqh, .ref aqw, .ref aqs, .ref aqu])), (aqh, .inl (cI, 6, .inl qhour)), (aqw, .inl (cI, 6, .inl qworn)), (aqs, .inl (cI, 5, .inl qsquare)), (aqu, .inl (cI, 5, .inl qunder)), (ap, .inr (2, [.int psq, .int ppa, .int ppe, .int pwo, .ref apk, .ref apq, .ref apr])), (apk, .inl (cI, 6, .inl pkind)), (apq, .inl (cI, 6, .inl pwsq)), (apr, .inl (cI, 6, .inl pwhr))] H → va_D A [(aq, .inr (1, [.ref ap, .int qgone, .int qmet, .int qstill, .int qdone, .ref aqh, .ref aqw, .ref aqs, .ref aqu])), (aqh, .inl (cI, 6, .inl qhour)), (aqw, .inl (cI, 6, .inl qworn)), (aqs, .inl (cI, 5, .inl qsquare)), (aqu, .inl (cI, 5, .inl qunder)), (ap, .inr (2, [.int psq, .int ppa, .int ppe, .int pwo, .ref apk, .ref apq, .ref apr])), (apk, .inl (cI, 6, .inl pkind)), (apq, .inl (cI, 6, .inl pwsq)), (apr, .inl (cI, 6, .inl pwhr))] → va_S A s.heap H locs → ∀ ls : Array Slot, lv_has ls 9 [(8, .int v6), (7, .int v5), (6, .int r3), (5, .int r1), (0, .ref aq), (1, .int u), (2, .int h), (3, .int n), (4, .int i)] → f_X1_fleckedWays_L28 r3 qhour u r1 h i k28 nf28 v5 v6 = some rr → W p l e rm_X1_fleckedWays s m args below meth c H locs 0 0 Q (F0 m 28 ls []) := by
    intro k28 hk28 nf28
    induction nf28 with
    | zero =>
      intro v5 v6 H locs hP hD hS ls hl hF
      rw [f_X1_fleckedWays_L28_0] at hF
      cases hF
    | succ nf28 ih28 =>
      intro v5 v6 H locs hP hD hS ls hl hF
      rw [f_X1_fleckedWays_L28_s] at hF
      refine lv_iload hx hb dX1_fleckedWays_28 (lv_at hl 0 rfl) ?_
      refine lv_iload hx hb dX1_fleckedWays_30 (lv_at hl 2 rfl) ?_
      refine lv_icmp_gt (tgt := 96) hx hb dX1_fleckedWays_32 (by decide) (fun c7 => ?_) (fun c7 => ?_)
      · have hF := op_pos c7 hF
        exact hk28 v5 v6 _ _ hP hD hS _ (lv_sub hl [1, 2, 7] rfl) hF
      · have hF := op_neg c7 hF
        refine lv_aload_n hx hb dX1_fleckedWays_35 rfl (lv_at hl 4 rfl) ?_
        refine lv_iload_n hx hb dX1_fleckedWays_36 rfl (lv_at hl 5 rfl) ?_
        obtain ⟨r8, hb9, hF⟩ := op_bind hF
        refine xVr (As := [.int u]) (rest := []) hC hP hD hS [0, 1, 2, 3, 4, 5, 6, 7, 8] (c_X1_hourOf l D cI cC cM aq aqh aqw aqs aqu ap apk apq apr qgone qmet qstill qdone qhour qworn qsquare qunder psq ppa ppe pwo pkind pwsq pwhr u r8 hb9) (cwV 1 hts gX1_fleckedWays_X1_hourOf rfl rfl rfl ⟨rfl, pd_X1_hourOf⟩ ⟨Nat.le_of_ble_eq_true rfl, Nat.le_of_ble_eq_true rfl⟩) rfl rfl 0 1 rfl rfl rfl rfl hl.1 rfl (Nat.le_of_ble_eq_true rfl) dX1_fleckedWays_37 ⟨Nat.zero_le _, Nat.zero_le _⟩ (fun H locs hP hS => ?_)
        refine lv_iload hx hb dX1_fleckedWays_40 (lv_at hl 0 rfl) ?_
        refine lv_iload hx hb dX1_fleckedWays_42 (lv_at hl 3 rfl) ?_
        obtain ⟨r10, hb11, hF⟩ := op_bind hF
        refine xNr (As := [.int r1]) (rest := [.int v6, .int r8]) hC hP hD hS [] (c_X7_turnOf l D cI cC cM r1 r10 hb11) ⟨va_cnB 1 hts gX1_fleckedWays_X7_turnOf_n153 rfl rfl rfl (hG.nw 16 rfl) k_in_X7 pd_X7_turnOf ⟨Nat.le_of_ble_eq_true rfl, Nat.le_of_ble_eq_true rfl⟩, k_st_turnOf, trivial⟩ rfl rfl rfl hl.1 rfl (Nat.le_of_ble_eq_true rfl) dX1_fleckedWays_44 ⟨Nat.zero_le _, Nat.zero_le _⟩ (fun H locs hP hS => ?_)
        refine lv_imul hx hb dX1_fleckedWays_47 ?_
        refine lv_iadd hx hb dX1_fleckedWays_48 ?_
        refine lv_bipush (v := (24 : Int32)) hx hb dX1_fleckedWays_49 (by decide) ?_
        refine lv_irem hx hb dX1_fleckedWays_51 (by decide) ?_
        refine lv_iload_n hx hb dX1_fleckedWays_52 rfl (lv_at hl 6 rfl) ?_
        refine lv_icmp_ne (tgt := 90) hx hb dX1_fleckedWays_53 (by decide) (fun c12 => ?_) (fun c12 => ?_)
        · have hF := op_neg c12 hF
          refine lv_iinc (v := (v6 + (1 : Int32))) (lv' := [(8, .int (v6 + (1 : Int32))), (7, .int v5), (6, .int r3), (5, .int r1), (0, .ref aq), (1, .int u), (2, .int h), (3, .int n), (4, .int i)]) hx hb dX1_fleckedWays_90 hl (k := 0) rfl (by first | rfl | decide) (by decide) rfl (fun ls hl => ?_)
          refine lv_goto (tgt := 28) hx hb dX1_fleckedWays_93 (by decide) ?_
          exact ih28 v5 (v6 + (1 : Int32)) _ _ hP hD hS _ (lv_sub hl [0, 1, 2, 3, 4, 5, 6, 7, 8] rfl) hF
        · have hF := op_pos c12 hF
          refine lv_iload hx hb dX1_fleckedWays_56 (lv_at hl 1 rfl) ?_
          refine lv_iload hx hb dX1_fleckedWays_58 (lv_at hl 0 rfl) ?_
          refine lv_iload hx hb dX1_fleckedWays_60 (lv_at hl 2 rfl) ?_
          obtain ⟨r13, hb14, hF⟩ := op_bind hF
          refine xNr (As := [.int v6, .int r3]) (rest := [.int v5]) hC hP hD hS [] (c_X7_choicesOf l D cI cC cM v6 r3 r13 hb14) ⟨va_cnB 2 hts gX1_fleckedWays_X7_choicesOf_n167 rfl rfl rfl (hG.nw 24 rfl) k_in_X7 pd_X7_choicesOf ⟨Nat.le_of_ble_eq_true rfl, Nat.le_of_ble_eq_true rfl⟩, k_st_choicesOf, trivial⟩ rfl rfl rfl hl.1 rfl (Nat.le_of_ble_eq_true rfl) dX1_fleckedWays_62 ⟨Nat.zero_le _, Nat.zero_le _⟩ (fun H locs hP hS => ?_)
          refine lv_iload hx hb dX1_fleckedWays_65 (lv_at hl 8 rfl) ?_
          refine lv_iload hx hb dX1_fleckedWays_67 (lv_at hl 0 rfl) ?_
          obtain ⟨r15, hb16, hF⟩ := op_bind hF
          refine xNr (As := [.int i, .int v6]) (rest := [.int r13, .int v5]) hC hP hD hS [] (c_X7_power l D cI cC cM i v6 r15 hb16) ⟨va_cnB 2 hts gX1_fleckedWays_X7_power_n170 rfl rfl rfl (hG.nw 25 rfl) k_in_X7 pd_X7_power ⟨Nat.le_of_ble_eq_true rfl, Nat.le_of_ble_eq_true rfl⟩, k_st_power, trivial⟩ rfl rfl rfl hl.1 rfl (Nat.le_of_ble_eq_true rfl) dX1_fleckedWays_69 ⟨Nat.zero_le _, Nat.zero_le _⟩ (fun H locs hP hS => ?_)
          refine lv_imul hx hb dX1_fleckedWays_72 ?_
          refine lv_bipush (v := (10 : Int32)) hx hb dX1_fleckedWays_73 (by decide) ?_
          refine lv_iload hx hb dX1_fleckedWays_75 (lv_at hl 8 rfl) ?_
          refine lv_isub hx hb dX1_fleckedWays_77 ?_
          refine lv_iload hx hb dX1_fleckedWays_78 (lv_at hl 2 rfl) ?_
          refine lv_iload hx hb dX1_fleckedWays_80 (lv_at hl 0 rfl) ?_
          refine lv_isub hx hb dX1_fleckedWays_82 ?_
          obtain ⟨r17, hb18, hF⟩ := op_bind hF
          refine xNr (As := [.int ((10 : Int32) - i), .int (r3 - v6)]) (rest := [.int (r13 * r15), .int v5]) hC hP hD hS [] (c_X7_power l D cI cC cM ((10 : Int32) - i) (r3 - v6) r17 hb18) ⟨va_cnB 2 hts gX1_fleckedWays_X7_power_n170 rfl rfl rfl (hG.nw 25 rfl) k_in_X7 pd_X7_power ⟨Nat.le_of_ble_eq_true rfl, Nat.le_of_ble_eq_true rfl⟩, k_st_power, trivial⟩ rfl rfl rfl hl.1 rfl (Nat.le_of_ble_eq_true rfl) dX1_fleckedWays_83 ⟨Nat.zero_le _, Nat.zero_le _⟩ (fun H locs hP hS => ?_)
          refine lv_imul hx hb dX1_fleckedWays_86 ?_
          refine lv_iadd hx hb dX1_fleckedWays_87 ?_
          refine lv_istore (lv' := [(7, .int (v5 + ((r13 * r15) * r17))), (8, .int v6), (6, .int r3), (5, .int r1), (0, .ref aq), (1, .int u), (2, .int h), (3, .int n), (4, .int i)]) hx hb dX1_fleckedWays_88 hl (by decide) rfl (fun ls hl => ?_)
          refine lv_iinc (v := (v6 + (1 : Int32))) (lv' := [(8, .int (v6 + (1 : Int32))), (7, .int (v5 + ((r13 * r15) * r17))), (6, .int r3), (5, .int r1), (0, .ref aq), (1, .int u), (2, .int h), (3, .int n), (4, .int i)]) hx hb dX1_fleckedWays_90 hl (k := 1) rfl (by first | rfl | decide) (by decide) rfl (fun ls hl => ?_)
          refine lv_goto (tgt := 28) hx hb dX1_fleckedWays_93 (by decide) ?_
          exact ih28 (v5 + ((r13 * r15) * r17)) (v6 + (1 : Int32)) _ _ hP hD hS _ (lv_sub hl [0, 1, 2, 3, 4, 5, 6, 7, 8] rfl) hF
  refine hL28 _ (fun v5 v6 H locs hP hD hS ls hl hF => ?_) 20000 (0 : Int32) (0 : Int32) _ _ hP hD hS _ (lv_sub hl [0, 1, 2, 3, 4, 5, 6, 7, 8] rfl) hF
  refine lv_iload hx hb dX1_fleckedWays_96 (lv_at hl 0 rfl) ?_
  refine lv_bipush (v := (10 : Int32)) hx hb dX1_fleckedWays_98 (by decide) ?_
  refine lv_iload_n hx hb dX1_fleckedWays_100 rfl (lv_at hl 2 rfl) ?_
  refine lv_iload hx hb dX1_fleckedWays_101 (lv_at hl 1 rfl) ?_
  refine lv_isub hx hb dX1_fleckedWays_103 ?_
  obtain ⟨r19, hb20, hF⟩ := op_bind hF
  refine xNr (As := [.int (10 : Int32), .int (n - r3)]) (rest := [.int v5]) hC hP hD hS [] (c_X7_power l D cI cC cM (10 : Int32) (n - r3) r19 hb20) ⟨va_cnB 2 hts gX1_fleckedWays_X7_power_n170 rfl rfl rfl (hG.nw 25 rfl) k_in_X7 pd_X7_power ⟨Nat.le_of_ble_eq_true rfl, Nat.le_of_ble_eq_true rfl⟩, k_st_power, trivial⟩ rfl rfl rfl hl.1 rfl (Nat.le_of_ble_eq_true rfl) dX1_fleckedWays_104 ⟨Nat.zero_le _, Nat.zero_le _⟩ (fun H locs hP hS => ?_)
  refine lv_imul hx hb dX1_fleckedWays_107 ?_
  cases hF
  rw [hQ]
  exact xri hC hP hS dX1_fleckedWays_108

def f_X1_actByDraw (qstill : Int32) (qworn : (Nat → Int32)) (qsquare : (Nat → Int32)) (qunder : (Nat → Int32)) (psq : Int32) (ppa : Int32) (ppe : Int32) (d0 : Int32) : Option (Int32 × (Nat → Int32) × (Nat → Int32) × (Nat → Int32)) := (Option.bind (f_X7_modulo (d0 / (8 : Int32)) ppe) fun r1 => (Option.bind (f_X7_modulo (d0 / (64 : Int32)) ppa) fun r3 => (Option.bind (f_X7_modulo (d0 / (64 : Int32)) ppe) fun r5 => (if (1 : Int32) < (jrem d0 (8 : Int32)) then (if (jrem d0 (8 : Int32)) = (2 : Int32) then (Option.bind (f_X1_canShare qsquare qunder ppe r1 r5) fun r67 => (if r67 = 0 then (if (jrem d0 (8 : Int32)) = (3 : Int32) then (Option.bind (f_X1_canGive qsquare qunder ppe r1) fun r97 => (if r97 = 0 then (if (jrem d0 (8 : Int32)) < (4 : Int32) then (if (jrem d0 (8 : Int32)) = (7 : Int32) then (Option.bind (f_X1_isInStand qunder ppe r3) fun r102 => (if r102 = 0 then (some (qstill, qworn, qsquare, qunder)) else (Option.bind (f_X1_doMend qworn r3) fun qworn_105 => (some (qstill, qworn_105, qsquare, qunder))))) else (some (qstill, qworn, qsquare, qunder))) else (if (6 : Int32) < (jrem d0 (8 : Int32)) then (if (jrem d0 (8 : Int32)) = (7 : Int32) then (Option.bind (f_X1_isInStand qunder ppe r3) fun r109 => (if r109 = 0 then (some (qstill, qworn, qsquare, qunder)) else (Option.bind (f_X1_doMend qworn r3) fun qworn_112 => (some (qstill, qworn_112, qsquare, qunder))))) else (some (qstill, qworn, qsquare, qunder))) else (Option.bind (f_X1_canWalk qstill qsquare psq r1 (jrem (d0 / (64 : Int32)) (2 : Int32))) fun r114 => (if r114 = 0 then (if (jrem d0 (8 : Int32)) = (7 : Int32) then (Option.bind (f_X1_isInStand qunder ppe r3) fun r118 => (if r118 = 0 then (some (qstill, qworn, qsquare, qunder)) else (Option.bind (f_X1_doMend qworn r3) fun qworn_121 => (some (qstill, qworn_121, qsquare, qunder))))) else (some (qstill, qworn, qsquare, qunder))) else (Option.bind (f_X1_doWalk qstill qsquare qunder ppe r1 (jrem (d0 / (64 : Int32)) (2 : Int32))) fun (qstill_123, qsquare_124) => (some (qstill_123, qworn, qsquare_124, qunder))))))) else (Option.bind (f_X1_doGive qunder r1) fun qunder_126 => (some (qstill, qworn, qsquare, qunder_126))))) else (if (jrem d0 (8 : Int32)) < (4 : Int32) then (if (jrem d0 (8 : Int32)) = (7 : Int32) then (Option.bind (f_X1_isInStand qunder ppe r3) fun r73 => (if r73 = 0 then (some (qstill, qworn, qsquare, qunder)) else (Option.bind (f_X1_doMend qworn r3) fun qworn_76 => (some (qstill, qworn_76, qsquare, qunder))))) else (some (qstill, qworn, qsquare, qunder))) else (if (6 : Int32) < (jrem d0 (8 : Int32)) then (if (jrem d0 (8 : Int32)) = (7 : Int32) then (Option.bind (f_X1_isInStand qunder ppe r3) fun r80 => (if r80 = 0 then (some (qstill, qworn, qsquare, qunder)) else (Option.bind (f_X1_doMend qworn r3) fun qworn_83 => (some (qstill, qworn_83, qsquare, qunder))))) else (some (qstill, qworn, qsquare, qunder))) else (Option.bind (f_X1_canWalk qstill qsquare psq r1 (jrem (d0 / (64 : Int32)) (2 : Int32))) fun r85 => (if r85 = 0 then (if (jrem d0 (8 : Int32)) = (7 : Int32) then (Option.bind (f_X1_isInStand qunder ppe r3) fun r89 => (if r89 = 0 then (some (qstill, qworn, qsquare, qunder)) else (Option.bind (f_X1_doMend qworn r3) fun qworn_92 => (some (qstill, qworn_92, qsquare, qunder))))) else (some (qstill, qworn, qsquare, qunder))) else (Option.bind (f_X1_doWalk qstill qsquare qunder ppe r1 (jrem (d0 / (64 : Int32)) (2 : Int32))) fun (qstill_94, qsquare_95) => (some (qstill_94, qworn, qsquare_95, qunder)))))))) else (Option.bind (f_X1_doShare qstill qunder r1 r5) fun (qstill_128, qunder_129) => (some (qstill_128, qworn, qsquare, qunder_129))))) else (if (jrem d0 (8 : Int32)) = (3 : Int32) then (Option.bind (f_X1_canGive qsquare qunder ppe r1) fun r36 => (if r36 = 0 then (if (jrem d0 (8 : Int32)) < (4 : Int32) then (if (jrem d0 (8 : Int32)) = (7 : Int32) then (Option.bind (f_X1_isInStand qunder ppe r3) fun r41 => (if r41 = 0 then (some (qstill, qworn, qsquare, qunder)) else (Option.bind (f_X1_doMend qworn r3) fun qworn_44 => (some (qstill, qworn_44, qsquare, qunder))))) else (some (qstill, qworn, qsquare, qunder))) else (if (6 : Int32) < (jrem d0 (8 : Int32)) then (if (jrem d0 (8 : Int32)) = (7 : Int32) then (Option.bind (f_X1_isInStand qunder ppe r3) fun r48 => (if r48 = 0 then (some (qstill, qworn, qsquare, qunder)) else (Option.bind (f_X1_doMend qworn r3) fun qworn_51 => (some (qstill, qworn_51, qsquare, qunder))))) else (some (qstill, qworn, qsquare, qunder))) else (Option.bind (f_X1_canWalk qstill qsquare psq r1 (jrem (d0 / (64 : Int32)) (2 : Int32))) fun r53 => (if r53 = 0 then (if (jrem d0 (8 : Int32)) = (7 : Int32) then (Option.bind (f_X1_isInStand qunder ppe r3) fun r57 => (if r57 = 0 then (some (qstill, qworn, qsquare, qunder)) else (Option.bind (f_X1_doMend qworn r3) fun qworn_60 => (some (qstill, qworn_60, qsquare, qunder))))) else (some (qstill, qworn, qsquare, qunder))) else (Option.bind (f_X1_doWalk qstill qsquare qunder ppe r1 (jrem (d0 / (64 : Int32)) (2 : Int32))) fun (qstill_62, qsquare_63) => (some (qstill_62, qworn, qsquare_63, qunder))))))) else (Option.bind (f_X1_doGive qunder r1) fun qunder_65 => (some (qstill, qworn, qsquare, qunder_65))))) else (if (jrem d0 (8 : Int32)) < (4 : Int32) then (if (jrem d0 (8 : Int32)) = (7 : Int32) then (Option.bind (f_X1_isInStand qunder ppe r3) fun r12 => (if r12 = 0 then (some (qstill, qworn, qsquare, qunder)) else (Option.bind (f_X1_doMend qworn r3) fun qworn_15 => (some (qstill, qworn_15, qsquare, qunder))))) else (some (qstill, qworn, qsquare, qunder))) else (if (6 : Int32) < (jrem d0 (8 : Int32)) then (if (jrem d0 (8 : Int32)) = (7 : Int32) then (Option.bind (f_X1_isInStand qunder ppe r3) fun r19 => (if r19 = 0 then (some (qstill, qworn, qsquare, qunder)) else (Option.bind (f_X1_doMend qworn r3) fun qworn_22 => (some (qstill, qworn_22, qsquare, qunder))))) else (some (qstill, qworn, qsquare, qunder))) else (Option.bind (f_X1_canWalk qstill qsquare psq r1 (jrem (d0 / (64 : Int32)) (2 : Int32))) fun r24 => (if r24 = 0 then (if (jrem d0 (8 : Int32)) = (7 : Int32) then (Option.bind (f_X1_isInStand qunder ppe r3) fun r28 => (if r28 = 0 then (some (qstill, qworn, qsquare, qunder)) else (Option.bind (f_X1_doMend qworn r3) fun qworn_31 => (some (qstill, qworn_31, qsquare, qunder))))) else (some (qstill, qworn, qsquare, qunder))) else (Option.bind (f_X1_doWalk qstill qsquare qunder ppe r1 (jrem (d0 / (64 : Int32)) (2 : Int32))) fun (qstill_33, qsquare_34) => (some (qstill_33, qworn, qsquare_34, qunder))))))))) else (Option.bind (f_X1_canTake qstill qsquare qunder ppe r1 r3) fun r131 => (if r131 = 0 then (if (jrem d0 (8 : Int32)) = (2 : Int32) then (Option.bind (f_X1_canShare qsquare qunder ppe r1 r5) fun r193 => (if r193 = 0 then (if (jrem d0 (8 : Int32)) = (3 : Int32) then (Option.bind (f_X1_canGive qsquare qunder ppe r1) fun r223 => (if r223 = 0 then (if (jrem d0 (8 : Int32)) < (4 : Int32) then (if (jrem d0 (8 : Int32)) = (7 : Int32) then (Option.bind (f_X1_isInStand qunder ppe r3) fun r228 => (if r228 = 0 then (some (qstill, qworn, qsquare, qunder)) else (Option.bind (f_X1_doMend qworn r3) fun qworn_231 => (some (qstill, qworn_231, qsquare, qunder))))) else (some (qstill, qworn, qsquare, qunder))) else (if (6 : Int32) < (jrem d0 (8 : Int32)) then (if (jrem d0 (8 : Int32)) = (7 : Int32) then (Option.bind (f_X1_isInStand qunder ppe r3) fun r235 => (if r235 = 0 then (some (qstill, qworn, qsquare, qunder)) else (Option.bind (f_X1_doMend qworn r3) fun qworn_238 => (some (qstill, qworn_238, qsquare, qunder))))) else (some (qstill, qworn, qsquare, qunder))) else (Option.bind (f_X1_canWalk qstill qsquare psq r1 (jrem (d0 / (64 : Int32)) (2 : Int32))) fun r240 => (if r240 = 0 then (if (jrem d0 (8 : Int32)) = (7 : Int32) then (Option.bind (f_X1_isInStand qunder ppe r3) fun r244 => (if r244 = 0 then (some (qstill, qworn, qsquare, qunder)) else (Option.bind (f_X1_doMend qworn r3) fun qworn_247 => (some (qstill, qworn_247, qsquare, qunder))))) else (some (qstill, qworn, qsquare, qunder))) else (Option.bind (f_X1_doWalk qstill qsquare qunder ppe r1 (jrem (d0 / (64 : Int32)) (2 : Int32))) fun (qstill_249, qsquare_250) => (some (qstill_249, qworn, qsquare_250, qunder))))))) else (Option.bind (f_X1_doGive qunder r1) fun qunder_252 => (some (qstill, qworn, qsquare, qunder_252))))) else (if (jrem d0 (8 : Int32)) < (4 : Int32) then (if (jrem d0 (8 : Int32)) = (7 : Int32) then (Option.bind (f_X1_isInStand qunder ppe r3) fun r199 => (if r199 = 0 then (some (qstill, qworn, qsquare, qunder)) else (Option.bind (f_X1_doMend qworn r3) fun qworn_202 => (some (qstill, qworn_202, qsquare, qunder))))) else (some (qstill, qworn, qsquare, qunder))) else (if (6 : Int32) < (jrem d0 (8 : Int32)) then (if (jrem d0 (8 : Int32)) = (7 : Int32) then (Option.bind (f_X1_isInStand qunder ppe r3) fun r206 => (if r206 = 0 then (some (qstill, qworn, qsquare, qunder)) else (Option.bind (f_X1_doMend qworn r3) fun qworn_209 => (some (qstill, qworn_209, qsquare, qunder))))) else (some (qstill, qworn, qsquare, qunder))) else (Option.bind (f_X1_canWalk qstill qsquare psq r1 (jrem (d0 / (64 : Int32)) (2 : Int32))) fun r211 => (if r211 = 0 then (if (jrem d0 (8 : Int32)) = (7 : Int32) then (Option.bind (f_X1_isInStand qunder ppe r3) fun r215 => (if r215 = 0 then (some (qstill, qworn, qsquare, qunder)) else (Option.bind (f_X1_doMend qworn r3) fun qworn_218 => (some (qstill, qworn_218, qsquare, qunder))))) else (some (qstill, qworn, qsquare, qunder))) else (Option.bind (f_X1_doWalk qstill qsquare qunder ppe r1 (jrem (d0 / (64 : Int32)) (2 : Int32))) fun (qstill_220, qsquare_221) => (some (qstill_220, qworn, qsquare_221, qunder)))))))) else (Option.bind (f_X1_doShare qstill qunder r1 r5) fun (qstill_254, qunder_255) => (some (qstill_254, qworn, qsquare, qunder_255))))) else (if (jrem d0 (8 : Int32)) = (3 : Int32) then (Option.bind (f_X1_canGive qsquare qunder ppe r1) fun r162 => (if r162 = 0 then (if (jrem d0 (8 : Int32)) < (4 : Int32) then (if (jrem d0 (8 : Int32)) = (7 : Int32) then (Option.bind (f_X1_isInStand qunder ppe r3) fun r167 => (if r167 = 0 then (some (qstill, qworn, qsquare, qunder)) else (Option.bind (f_X1_doMend qworn r3) fun qworn_170 => (some (qstill, qworn_170, qsquare, qunder))))) else (some (qstill, qworn, qsquare, qunder))) else (if (6 : Int32) < (jrem d0 (8 : Int32)) then (if (jrem d0 (8 : Int32)) = (7 : Int32) then (Option.bind (f_X1_isInStand qunder ppe r3) fun r174 => (if r174 = 0 then (some (qstill, qworn, qsquare, qunder)) else (Option.bind (f_X1_doMend qworn r3) fun qworn_177 => (some (qstill, qworn_177, qsquare, qunder))))) else (some (qstill, qworn, qsquare, qunder))) else (Option.bind (f_X1_canWalk qstill qsquare psq r1 (jrem (d0 / (64 : Int32)) (2 : Int32))) fun r179 => (if r179 = 0 then (if (jrem d0 (8 : Int32)) = (7 : Int32) then (Option.bind (f_X1_isInStand qunder ppe r3) fun r183 => (if r183 = 0 then (some (qstill, qworn, qsquare, qunder)) else (Option.bind (f_X1_doMend qworn r3) fun qworn_186 => (some (qstill, qworn_186, qsquare, qunder))))) else (some (qstill, qworn, qsquare, qunder))) else (Option.bind (f_X1_doWalk qstill qsquare qunder ppe r1 (jrem (d0 / (64 : Int32)) (2 : Int32))) fun (qstill_188, qsquare_189) => (some (qstill_188, qworn, qsquare_189, qunder))))))) else (Option.bind (f_X1_doGive qunder r1) fun qunder_191 => (some (qstill, qworn, qsquare, qunder_191))))) else (if (jrem d0 (8 : Int32)) < (4 : Int32) then (if (jrem d0 (8 : Int32)) = (7 : Int32) then (Option.bind (f_X1_isInStand qunder ppe r3) fun r138 => (if r138 = 0 then (some (qstill, qworn, qsquare, qunder)) else (Option.bind (f_X1_doMend qworn r3) fun qworn_141 => (some (qstill, qworn_141, qsquare, qunder))))) else (some (qstill, qworn, qsquare, qunder))) else (if (6 : Int32) < (jrem d0 (8 : Int32)) then (if (jrem d0 (8 : Int32)) = (7 : Int32) then (Option.bind (f_X1_isInStand qunder ppe r3) fun r145 => (if r145 = 0 then (some (qstill, qworn, qsquare, qunder)) else (Option.bind (f_X1_doMend qworn r3) fun qworn_148 => (some (qstill, qworn_148, qsquare, qunder))))) else (some (qstill, qworn, qsquare, qunder))) else (Option.bind (f_X1_canWalk qstill qsquare psq r1 (jrem (d0 / (64 : Int32)) (2 : Int32))) fun r150 => (if r150 = 0 then (if (jrem d0 (8 : Int32)) = (7 : Int32) then (Option.bind (f_X1_isInStand qunder ppe r3) fun r154 => (if r154 = 0 then (some (qstill, qworn, qsquare, qunder)) else (Option.bind (f_X1_doMend qworn r3) fun qworn_157 => (some (qstill, qworn_157, qsquare, qunder))))) else (some (qstill, qworn, qsquare, qunder))) else (Option.bind (f_X1_doWalk qstill qsquare qunder ppe r1 (jrem (d0 / (64 : Int32)) (2 : Int32))) fun (qstill_159, qsquare_160) => (some (qstill_159, qworn, qsquare_160, qunder))))))))) else (Option.bind (f_X1_doTake qunder r1 r3) fun qunder_257 => (some (qstill, qworn, qsquare, qunder_257)))))))))

def rm_X1_actByDraw : Room := { frames := 5, cells := 0, slots := 0, locals := 108 }

theorem pd_X1_actByDraw : yX1_actByDraw.cls ≠ "java/lang/invoke/MethodHandle" ∧ yX1_actByDraw.cls ≠ "java/lang/invoke/VarHandle" ∧ (parseMethodDescriptor yX1_actByDraw.desc).map (fun d => d.parameters.length) = some 1 := by decide +kernel

set_option maxHeartbeats 4000000 in
set_option maxRecDepth 100000 in
theorem c_X1_actByDraw (l : Launch) (D : va_G) (cI cC cM : ClassId) (aq aqh aqw aqs aqu ap apk apq apr : Nat) (qgone : Int32) (qmet : Int32) (qstill : Int32) (qdone : Int32) (qhour : (Nat → Int32)) (qworn : (Nat → Int32)) (qsquare : (Nat → Int32)) (qunder : (Nat → Int32)) (psq : Int32) (ppa : Int32) (ppe : Int32) (pwo : Int32) (pkind : (Nat → Int32)) (pwsq : (Nat → Int32)) (pwhr : (Nat → Int32)) (d0 : Int32) (qstill' : Int32) (qworn' : (Nat → Int32)) (qsquare' : (Nat → Int32)) (qunder' : (Nat → Int32)) (hF : f_X1_actByDraw qstill qworn qsquare qunder psq ppa ppe d0 = some (qstill', qworn', qsquare', qunder')) : CV l D cI cC cM yX1_actByDraw wsX1_actByDraw rm_X1_actByDraw [.ref aq, .int d0] [(aq, .inr (1, [.ref ap, .int qgone, .int qmet, .int qstill, .int qdone, .ref aqh, .ref aqw, .ref aqs, .ref aqu])), (aqh, .inl (cI, 6, .inl qhour)), (aqw, .inl (cI, 6, .inl qworn)), (aqs, .inl (cI, 5, .inl qsquare)), (aqu, .inl (cI, 5, .inl qunder)), (ap, .inr (2, [.int psq, .int ppa, .int ppe, .int pwo, .ref apk, .ref apq, .ref apr])), (apk, .inl (cI, 6, .inl pkind)), (apq, .inl (cI, 6, .inl pwsq)), (apr, .inl (cI, 6, .inl pwhr))] [(aq, .inr (1, [.ref ap, .int qgone, .int qmet, .int qstill', .int qdone, .ref aqh, .ref aqw, .ref aqs, .ref aqu])), (aqh, .inl (cI, 6, .inl qhour)), (aqw, .inl (cI, 6, .inl qworn')), (aqs, .inl (cI, 5, .inl qsquare')), (aqu, .inl (cI, 5, .inl qunder')), (ap, .inr (2, [.int psq, .int ppa, .int ppe, .int pwo, .ref apk, .ref apq, .ref apr])), (apk, .inl (cI, 6, .inl pkind)), (apq, .inl (cI, 6, .inl pwsq)), (apr, .inl (cI, 6, .inl pwhr))] := by
  refine CV.of (cc := cX1_actByDraw) (nL := 7) (ret := none) (by decide) rfl (Nat.le_of_ble_eq_true rfl) ?_
  intro p e s m args below meth c A hC hP hD hS ls hl
  obtain ⟨hx, hb, hml, hown, hts, hr, hlk, hG, hA⟩ := id hC
  have hown : s.vm.findClass RX1 = some m.cls := hown
  have hK := hG.1
  have hl : lv_has ls 7 [(0, .ref aq), (1, .int d0)] := hl
  have k_f24 := hts (.fieldLink RX1 24 "ParasolHours$Moment" "plan" "LParasolHours$Plan;") (List.mem_of_getElem? (i := 1) rfl)
  have k_f53 := hts (.fieldLink RX1 53 "ParasolHours$Plan" "persons" "I") (List.mem_of_getElem? (i := 2) rfl)
  have k_st_modulo := hts (.static yX7_modulo) (List.mem_of_getElem? (i := 4) rfl)
  have k_in_X7 := hts (.initialized RX7) (List.mem_of_getElem? (i := 5) rfl)
  have k_f65 := hts (.fieldLink RX1 65 "ParasolHours$Plan" "parasols" "I") (List.mem_of_getElem? (i := 3) rfl)
  have iX1 : ∀ w ∈ wsX10, w ∈ wsX1_actByDraw := by decide +kernel
  have iX2 : ∀ w ∈ wsX20, w ∈ wsX1_actByDraw := by decide +kernel
  obtain ⟨Q, hQ⟩ : ∃ Q, Q = MQ below (QV D [(aq, .inr (1, [.ref ap, .int qgone, .int qmet, .int qstill', .int qdone, .ref aqh, .ref aqw, .ref aqs, .ref aqu])), (aqh, .inl (cI, 6, .inl qhour)), (aqw, .inl (cI, 6, .inl qworn')), (aqs, .inl (cI, 5, .inl qsquare')), (aqu, .inl (cI, 5, .inl qunder')), (ap, .inr (2, [.int psq, .int ppa, .int ppe, .int pwo, .ref apk, .ref apq, .ref apr])), (apk, .inl (cI, 6, .inl pkind)), (apq, .inl (cI, 6, .inl pwsq)), (apr, .inl (cI, 6, .inl pwhr))] A) args s 0 0 A := ⟨_, rfl⟩
  rw [← hQ]
  unfold f_X1_actByDraw at hF
  refine lv_iload_n hx hb dX1_actByDraw_0 rfl (lv_at hl 1 rfl) ?_
  refine lv_bipush (v := (8 : Int32)) hx hb dX1_actByDraw_1 (by decide) ?_
  refine lv_idiv hx hb dX1_actByDraw_3 (by decide) ?_
  refine lv_aload_n hx hb dX1_actByDraw_4 rfl (lv_at hl 0 rfl) ?_
  refine va_get (D := D) (ci := 1) (v := .ref ap) (C := RX1) (T := TX1) (N := 9) hx hb hts iX1 hown hK hP 0 rfl rfl 0 (by decide) k_f24 (fun _ h9 => h9) rfl dX1_actByDraw_5 ?_
  refine va_get (D := D) (ci := 2) (v := .int ppe) (C := RX2) (T := TX2) (N := 7) hx hb hts iX2 hown hK hP 5 rfl rfl 2 (by decide) k_f53 (fun _ h9 => h9) rfl dX1_actByDraw_8 ?_
  obtain ⟨r1, hb2, hF⟩ := op_bind hF
  refine xNr (As := [.int (d0 / (8 : Int32)), .int ppe]) (rest := []) hC hP hD hS [] (c_X7_modulo l D cI cC cM (d0 / (8 : Int32)) ppe r1 hb2) ⟨va_cnB 2 hts gX1_actByDraw_X7_modulo_n173 rfl rfl rfl (hG.nw 26 rfl) k_in_X7 pd_X7_modulo ⟨Nat.le_of_ble_eq_true rfl, Nat.le_of_ble_eq_true rfl⟩, k_st_modulo, trivial⟩ rfl rfl rfl hl.1 rfl (Nat.le_of_ble_eq_true rfl) dX1_actByDraw_11 ⟨Nat.zero_le _, Nat.zero_le _⟩ (fun H locs hP hS => ?_)
  refine lv_istore_n (lv' := [(2, .int r1), (0, .ref aq), (1, .int d0)]) hx hb dX1_actByDraw_14 rfl hl (by decide) rfl (fun ls hl => ?_)
  refine lv_iload_n hx hb dX1_actByDraw_15 rfl (lv_at hl 2 rfl) ?_
  refine lv_bipush (v := (64 : Int32)) hx hb dX1_actByDraw_16 (by decide) ?_
  refine lv_idiv hx hb dX1_actByDraw_18 (by decide) ?_
  refine lv_istore_n (lv' := [(3, .int (d0 / (64 : Int32))), (2, .int r1), (0, .ref aq), (1, .int d0)]) hx hb dX1_actByDraw_19 rfl hl (by decide) rfl (fun ls hl => ?_)
  refine lv_iload_n hx hb dX1_actByDraw_20 rfl (lv_at hl 0 rfl) ?_
  refine lv_aload_n hx hb dX1_actByDraw_21 rfl (lv_at hl 2 rfl) ?_
  refine va_get (D := D) (ci := 1) (v := .ref ap) (C := RX1) (T := TX1) (N := 9) hx hb hts iX1 hown hK hP 0 rfl rfl 0 (by decide) k_f24 (fun _ h9 => h9) rfl dX1_actByDraw_22 ?_
  refine va_get (D := D) (ci := 2) (v := .int ppa) (C := RX2) (T := TX2) (N := 7) hx hb hts iX2 hown hK hP 5 rfl rfl 1 (by decide) k_f65 (fun _ h9 => h9) rfl dX1_actByDraw_25 ?_
  obtain ⟨r3, hb4, hF⟩ := op_bind hF
  refine xNr (As := [.int (d0 / (64 : Int32)), .int ppa]) (rest := []) hC hP hD hS [] (c_X7_modulo l D cI cC cM (d0 / (64 : Int32)) ppa r3 hb4) ⟨va_cnB 2 hts gX1_actByDraw_X7_modulo_n173 rfl rfl rfl (hG.nw 26 rfl) k_in_X7 pd_X7_modulo ⟨Nat.le_of_ble_eq_true rfl, Nat.le_of_ble_eq_true rfl⟩, k_st_modulo, trivial⟩ rfl rfl rfl hl.1 rfl (Nat.le_of_ble_eq_true rfl) dX1_actByDraw_28 ⟨Nat.zero_le _, Nat.zero_le _⟩ (fun H locs hP hS => ?_)
  refine lv_istore (lv' := [(4, .int r3), (3, .int (d0 / (64 : Int32))), (2, .int r1), (0, .ref aq), (1, .int d0)]) hx hb dX1_actByDraw_31 hl (by decide) rfl (fun ls hl => ?_)
  refine lv_iload_n hx hb dX1_actByDraw_33 rfl (lv_at hl 1 rfl) ?_
  refine lv_aload_n hx hb dX1_actByDraw_34 rfl (lv_at hl 3 rfl) ?_
  refine va_get (D := D) (ci := 1) (v := .ref ap) (C := RX1) (T := TX1) (N := 9) hx hb hts iX1 hown hK hP 0 rfl rfl 0 (by decide) k_f24 (fun _ h9 => h9) rfl dX1_actByDraw_35 ?_
  refine va_get (D := D) (ci := 2) (v := .int ppe) (C := RX2) (T := TX2) (N := 7) hx hb hts iX2 hown hK hP 5 rfl rfl 2 (by decide) k_f53 (fun _ h9 => h9) rfl dX1_actByDraw_38 ?_
  obtain ⟨r5, hb6, hF⟩ := op_bind hF
  refine xNr (As := [.int (d0 / (64 : Int32)), .int ppe]) (rest := []) hC hP hD hS [] (c_X7_modulo l D cI cC cM (d0 / (64 : Int32)) ppe r5 hb6) ⟨va_cnB 2 hts gX1_actByDraw_X7_modulo_n173 rfl rfl rfl (hG.nw 26 rfl) k_in_X7 pd_X7_modulo ⟨Nat.le_of_ble_eq_true rfl, Nat.le_of_ble_eq_true rfl⟩, k_st_modulo, trivial⟩ rfl rfl rfl hl.1 rfl (Nat.le_of_ble_eq_true rfl) dX1_actByDraw_41 ⟨Nat.zero_le _, Nat.zero_le _⟩ (fun H locs hP hS => ?_)
  refine lv_istore (lv' := [(5, .int r5), (4, .int r3), (3, .int (d0 / (64 : Int32))), (2, .int r1), (0, .ref aq), (1, .int d0)]) hx hb dX1_actByDraw_44 hl (by decide) rfl (fun ls hl => ?_)
  refine lv_iload_n hx hb dX1_actByDraw_46 rfl (lv_at hl 5 rfl) ?_
  refine lv_bipush (v := (8 : Int32)) hx hb dX1_actByDraw_47 (by decide) ?_
  refine lv_irem hx hb dX1_actByDraw_49 (by decide) ?_
  refine lv_istore (lv' := [(6, .int (jrem d0 (8 : Int32))), (5, .int r5), (4, .int r3), (3, .int (d0 / (64 : Int32))), (2, .int r1), (0, .ref aq), (1, .int d0)]) hx hb dX1_actByDraw_50 hl (by decide) rfl (fun ls hl => ?_)
  refine lv_iload hx hb dX1_actByDraw_52 (lv_at hl 0 rfl) ?_
  refine lv_iconst (v := (1 : Int32)) hx hb dX1_actByDraw_54 (by decide) ?_
  refine lv_icmp_gt (tgt := 78) hx hb dX1_actByDraw_55 (by decide) (fun c7 => ?_) (fun c7 => ?_)
  · have hF := op_pos c7 hF
    refine lv_iload hx hb dX1_actByDraw_78 (lv_at hl 0 rfl) ?_
    refine lv_iconst (v := (2 : Int32)) hx hb dX1_actByDraw_80 (by decide) ?_
    refine lv_icmp_ne (tgt := 104) hx hb dX1_actByDraw_81 (by decide) (fun c8 => ?_) (fun c8 => ?_)
    · have hF := op_neg c8 hF
      refine lv_iload hx hb dX1_actByDraw_104 (lv_at hl 0 rfl) ?_
      refine lv_iconst (v := (3 : Int32)) hx hb dX1_actByDraw_106 (by decide) ?_
      refine lv_icmp_ne (tgt := 126) hx hb dX1_actByDraw_107 (by decide) (fun c9 => ?_) (fun c9 => ?_)
      · have hF := op_neg c9 hF
        refine lv_iload hx hb dX1_actByDraw_126 (lv_at hl 0 rfl) ?_
        refine lv_iconst (v := (4 : Int32)) hx hb dX1_actByDraw_128 (by decide) ?_
        refine lv_icmp_lt (tgt := 161) hx hb dX1_actByDraw_129 (by decide) (fun c10 => ?_) (fun c10 => ?_)
        · have hF := op_pos c10 hF
          refine lv_iload hx hb dX1_actByDraw_161 (lv_at hl 0 rfl) ?_
          refine lv_bipush (v := (7 : Int32)) hx hb dX1_actByDraw_163 (by decide) ?_
          refine lv_icmp_ne (tgt := 183) hx hb dX1_actByDraw_165 (by decide) (fun c11 => ?_) (fun c11 => ?_)
          · have hF := op_neg c11 hF
            cases hF
            rw [hQ]
            exact xrv hC hP hS dX1_actByDraw_183
          · have hF := op_pos c11 hF
            refine lv_aload_n hx hb dX1_actByDraw_168 rfl (lv_at hl 5 rfl) ?_
            refine lv_iload hx hb dX1_actByDraw_169 (lv_at hl 2 rfl) ?_
            obtain ⟨r12, hb13, hF⟩ := op_bind hF
            refine xVr (As := [.int r3]) (rest := []) hC hP hD hS [0, 1, 2, 3, 4, 5, 6, 7, 8] (c_X1_isInStand l D cI cC cM aq aqh aqw aqs aqu ap apk apq apr qgone qmet qstill qdone qhour qworn qsquare qunder psq ppa ppe pwo pkind pwsq pwhr r3 r12 hb13) (cwV 1 hts gX1_actByDraw_X1_isInStand rfl rfl rfl ⟨rfl, pd_X1_isInStand⟩ ⟨Nat.le_of_ble_eq_true rfl, Nat.le_of_ble_eq_true rfl⟩) rfl rfl 0 1 rfl rfl rfl rfl hl.1 rfl (Nat.le_of_ble_eq_true rfl) dX1_actByDraw_171 ⟨Nat.zero_le _, Nat.zero_le _⟩ (fun H locs hP hS => ?_)
            refine lv_if_eq (tgt := 183) hx hb dX1_actByDraw_174 (by decide) (fun c14 => ?_) (fun c14 => ?_)
            · have hF := op_pos c14 hF
              cases hF
              rw [hQ]
              exact xrv hC hP hS dX1_actByDraw_183
            · have hF := op_neg c14 hF
              refine lv_aload_n hx hb dX1_actByDraw_177 rfl (lv_at hl 5 rfl) ?_
              refine lv_iload hx hb dX1_actByDraw_178 (lv_at hl 2 rfl) ?_
              obtain ⟨qworn_15, hb16, hF⟩ := op_bind hF
              refine xVv (As := [.int r3]) (rest := []) hC hP hD hS [0, 1, 2, 3, 4, 5, 6, 7, 8] (c_X1_doMend l D cI cC cM aq aqh aqw aqs aqu ap apk apq apr qgone qmet qstill qdone qhour qworn qsquare qunder psq ppa ppe pwo pkind pwsq pwhr r3 qworn_15 hb16) (cwV 1 hts gX1_actByDraw_X1_doMend rfl rfl rfl ⟨rfl, pd_X1_doMend⟩ ⟨Nat.le_of_ble_eq_true rfl, Nat.le_of_ble_eq_true rfl⟩) rfl rfl rfl 0 1 rfl rfl rfl rfl hl.1 rfl (Nat.le_of_ble_eq_true rfl) dX1_actByDraw_180 ⟨Nat.zero_le _, Nat.zero_le _⟩ (fun H locs hP hD hS => ?_)
              have hP : va_P D vwCl [(aq, .inr (1, [.ref ap, .int qgone, .int qmet, .int qstill, .int qdone, .ref aqh, .ref aqw, .ref aqs, .ref aqu])), (aqh, .inl (cI, 6, .inl qhour)), (aqw, .inl (cI, 6, .inl qworn_15)), (aqs, .inl (cI, 5, .inl qsquare)), (aqu, .inl (cI, 5, .inl qunder)), (ap, .inr (2, [.int psq, .int ppa, .int ppe, .int pwo, .ref apk, .ref apq, .ref apr])), (apk, .inl (cI, 6, .inl pkind)), (apq, .inl (cI, 6, .inl pwsq)), (apr, .inl (cI, 6, .inl pwhr))] H := hP
              have hD : va_D A [(aq, .inr (1, [.ref ap, .int qgone, .int qmet, .int qstill, .int qdone, .ref aqh, .ref aqw, .ref aqs, .ref aqu])), (aqh, .inl (cI, 6, .inl qhour)), (aqw, .inl (cI, 6, .inl qworn_15)), (aqs, .inl (cI, 5, .inl qsquare)), (aqu, .inl (cI, 5, .inl qunder)), (ap, .inr (2, [.int psq, .int ppa, .int ppe, .int pwo, .ref apk, .ref apq, .ref apr])), (apk, .inl (cI, 6, .inl pkind)), (apq, .inl (cI, 6, .inl pwsq)), (apr, .inl (cI, 6, .inl pwhr))] := hD
              cases hF
              rw [hQ]
              exact xrv hC hP hS dX1_actByDraw_183
        · have hF := op_neg c10 hF
          refine lv_iload hx hb dX1_actByDraw_132 (lv_at hl 0 rfl) ?_
          refine lv_bipush (v := (6 : Int32)) hx hb dX1_actByDraw_134 (by decide) ?_
          refine lv_icmp_gt (tgt := 161) hx hb dX1_actByDraw_136 (by decide) (fun c17 => ?_) (fun c17 => ?_)
          · have hF := op_pos c17 hF
            refine lv_iload hx hb dX1_actByDraw_161 (lv_at hl 0 rfl) ?_
            refine lv_bipush (v := (7 : Int32)) hx hb dX1_actByDraw_163 (by decide) ?_
            refine lv_icmp_ne (tgt := 183) hx hb dX1_actByDraw_165 (by decide) (fun c18 => ?_) (fun c18 => ?_)
            · have hF := op_neg c18 hF
              cases hF
              rw [hQ]
              exact xrv hC hP hS dX1_actByDraw_183
            · have hF := op_pos c18 hF
              refine lv_aload_n hx hb dX1_actByDraw_168 rfl (lv_at hl 5 rfl) ?_
              refine lv_iload hx hb dX1_actByDraw_169 (lv_at hl 2 rfl) ?_
              obtain ⟨r19, hb20, hF⟩ := op_bind hF
              refine xVr (As := [.int r3]) (rest := []) hC hP hD hS [0, 1, 2, 3, 4, 5, 6, 7, 8] (c_X1_isInStand l D cI cC cM aq aqh aqw aqs aqu ap apk apq apr qgone qmet qstill qdone qhour qworn qsquare qunder psq ppa ppe pwo pkind pwsq pwhr r3 r19 hb20) (cwV 1 hts gX1_actByDraw_X1_isInStand rfl rfl rfl ⟨rfl, pd_X1_isInStand⟩ ⟨Nat.le_of_ble_eq_true rfl, Nat.le_of_ble_eq_true rfl⟩) rfl rfl 0 1 rfl rfl rfl rfl hl.1 rfl (Nat.le_of_ble_eq_true rfl) dX1_actByDraw_171 ⟨Nat.zero_le _, Nat.zero_le _⟩ (fun H locs hP hS => ?_)
              refine lv_if_eq (tgt := 183) hx hb dX1_actByDraw_174 (by decide) (fun c21 => ?_) (fun c21 => ?_)
              · have hF := op_pos c21 hF
                cases hF
                rw [hQ]
                exact xrv hC hP hS dX1_actByDraw_183
              · have hF := op_neg c21 hF
                refine lv_aload_n hx hb dX1_actByDraw_177 rfl (lv_at hl 5 rfl) ?_
                refine lv_iload hx hb dX1_actByDraw_178 (lv_at hl 2 rfl) ?_
                obtain ⟨qworn_22, hb23, hF⟩ := op_bind hF
                refine xVv (As := [.int r3]) (rest := []) hC hP hD hS [0, 1, 2, 3, 4, 5, 6, 7, 8] (c_X1_doMend l D cI cC cM aq aqh aqw aqs aqu ap apk apq apr qgone qmet qstill qdone qhour qworn qsquare qunder psq ppa ppe pwo pkind pwsq pwhr r3 qworn_22 hb23) (cwV 1 hts gX1_actByDraw_X1_doMend rfl rfl rfl ⟨rfl, pd_X1_doMend⟩ ⟨Nat.le_of_ble_eq_true rfl, Nat.le_of_ble_eq_true rfl⟩) rfl rfl rfl 0 1 rfl rfl rfl rfl hl.1 rfl (Nat.le_of_ble_eq_true rfl) dX1_actByDraw_180 ⟨Nat.zero_le _, Nat.zero_le _⟩ (fun H locs hP hD hS => ?_)
                have hP : va_P D vwCl [(aq, .inr (1, [.ref ap, .int qgone, .int qmet, .int qstill, .int qdone, .ref aqh, .ref aqw, .ref aqs, .ref aqu])), (aqh, .inl (cI, 6, .inl qhour)), (aqw, .inl (cI, 6, .inl qworn_22)), (aqs, .inl (cI, 5, .inl qsquare)), (aqu, .inl (cI, 5, .inl qunder)), (ap, .inr (2, [.int psq, .int ppa, .int ppe, .int pwo, .ref apk, .ref apq, .ref apr])), (apk, .inl (cI, 6, .inl pkind)), (apq, .inl (cI, 6, .inl pwsq)), (apr, .inl (cI, 6, .inl pwhr))] H := hP
                have hD : va_D A [(aq, .inr (1, [.ref ap, .int qgone, .int qmet, .int qstill, .int qdone, .ref aqh, .ref aqw, .ref aqs, .ref aqu])), (aqh, .inl (cI, 6, .inl qhour)), (aqw, .inl (cI, 6, .inl qworn_22)), (aqs, .inl (cI, 5, .inl qsquare)), (aqu, .inl (cI, 5, .inl qunder)), (ap, .inr (2, [.int psq, .int ppa, .int ppe, .int pwo, .ref apk, .ref apq, .ref apr])), (apk, .inl (cI, 6, .inl pkind)), (apq, .inl (cI, 6, .inl pwsq)), (apr, .inl (cI, 6, .inl pwhr))] := hD
                cases hF
                rw [hQ]
                exact xrv hC hP hS dX1_actByDraw_183
          · have hF := op_neg c17 hF
            refine lv_aload_n hx hb dX1_actByDraw_139 rfl (lv_at hl 5 rfl) ?_
            refine lv_iload_n hx hb dX1_actByDraw_140 rfl (lv_at hl 4 rfl) ?_
            refine lv_iload_n hx hb dX1_actByDraw_141 rfl (lv_at hl 3 rfl) ?_
            refine lv_iconst (v := (2 : Int32)) hx hb dX1_actByDraw_142 (by decide) ?_
            refine lv_irem hx hb dX1_actByDraw_143 (by decide) ?_
            obtain ⟨r24, hb25, hF⟩ := op_bind hF
            refine xVr (As := [.int r1, .int (jrem (d0 / (64 : Int32)) (2 : Int32))]) (rest := []) hC hP hD hS [0, 1, 2, 3, 4, 5, 6, 7, 8] (c_X1_canWalk l D cI cC cM aq aqh aqw aqs aqu ap apk apq apr qgone qmet qstill qdone qhour qworn qsquare qunder psq ppa ppe pwo pkind pwsq pwhr r1 (jrem (d0 / (64 : Int32)) (2 : Int32)) r24 hb25) (cwV 2 hts gX1_actByDraw_X1_canWalk rfl rfl rfl ⟨rfl, pd_X1_canWalk⟩ ⟨Nat.le_of_ble_eq_true rfl, Nat.le_of_ble_eq_true rfl⟩) rfl rfl 0 1 rfl rfl rfl rfl hl.1 rfl (Nat.le_of_ble_eq_true rfl) dX1_actByDraw_144 ⟨Nat.zero_le _, Nat.zero_le _⟩ (fun H locs hP hS => ?_)
            refine lv_if_eq (tgt := 161) hx hb dX1_actByDraw_147 (by decide) (fun c26 => ?_) (fun c26 => ?_)
            · have hF := op_pos c26 hF
              refine lv_iload hx hb dX1_actByDraw_161 (lv_at hl 0 rfl) ?_
              refine lv_bipush (v := (7 : Int32)) hx hb dX1_actByDraw_163 (by decide) ?_
              refine lv_icmp_ne (tgt := 183) hx hb dX1_actByDraw_165 (by decide) (fun c27 => ?_) (fun c27 => ?_)
              · have hF := op_neg c27 hF
                cases hF
                rw [hQ]
                exact xrv hC hP hS dX1_actByDraw_183
              · have hF := op_pos c27 hF
                refine lv_aload_n hx hb dX1_actByDraw_168 rfl (lv_at hl 5 rfl) ?_
                refine lv_iload hx hb dX1_actByDraw_169 (lv_at hl 2 rfl) ?_
                obtain ⟨r28, hb29, hF⟩ := op_bind hF
                refine xVr (As := [.int r3]) (rest := []) hC hP hD hS [0, 1, 2, 3, 4, 5, 6, 7, 8] (c_X1_isInStand l D cI cC cM aq aqh aqw aqs aqu ap apk apq apr qgone qmet qstill qdone qhour qworn qsquare qunder psq ppa ppe pwo pkind pwsq pwhr r3 r28 hb29) (cwV 1 hts gX1_actByDraw_X1_isInStand rfl rfl rfl ⟨rfl, pd_X1_isInStand⟩ ⟨Nat.le_of_ble_eq_true rfl, Nat.le_of_ble_eq_true rfl⟩) rfl rfl 0 1 rfl rfl rfl rfl hl.1 rfl (Nat.le_of_ble_eq_true rfl) dX1_actByDraw_171 ⟨Nat.zero_le _, Nat.zero_le _⟩ (fun H locs hP hS => ?_)
                refine lv_if_eq (tgt := 183) hx hb dX1_actByDraw_174 (by decide) (fun c30 => ?_) (fun c30 => ?_)
                · have hF := op_pos c30 hF
                  cases hF
                  rw [hQ]
                  exact xrv hC hP hS dX1_actByDraw_183
                · have hF := op_neg c30 hF
                  refine lv_aload_n hx hb dX1_actByDraw_177 rfl (lv_at hl 5 rfl) ?_
                  refine lv_iload hx hb dX1_actByDraw_178 (lv_at hl 2 rfl) ?_
                  obtain ⟨qworn_31, hb32, hF⟩ := op_bind hF
                  refine xVv (As := [.int r3]) (rest := []) hC hP hD hS [0, 1, 2, 3, 4, 5, 6, 7, 8] (c_X1_doMend l D cI cC cM aq aqh aqw aqs aqu ap apk apq apr qgone qmet qstill qdone qhour qworn qsquare qunder psq ppa ppe pwo pkind pwsq pwhr r3 qworn_31 hb32) (cwV 1 hts gX1_actByDraw_X1_doMend rfl rfl rfl ⟨rfl, pd_X1_doMend⟩ ⟨Nat.le_of_ble_eq_true rfl, Nat.le_of_ble_eq_true rfl⟩) rfl rfl rfl 0 1 rfl rfl rfl rfl hl.1 rfl (Nat.le_of_ble_eq_true rfl) dX1_actByDraw_180 ⟨Nat.zero_le _, Nat.zero_le _⟩ (fun H locs hP hD hS => ?_)
                  have hP : va_P D vwCl [(aq, .inr (1, [.ref ap, .int qgone, .int qmet, .int qstill, .int qdone, .ref aqh, .ref aqw, .ref aqs, .ref aqu])), (aqh, .inl (cI, 6, .inl qhour)), (aqw, .inl (cI, 6, .inl qworn_31)), (aqs, .inl (cI, 5, .inl qsquare)), (aqu, .inl (cI, 5, .inl qunder)), (ap, .inr (2, [.int psq, .int ppa, .int ppe, .int pwo, .ref apk, .ref apq, .ref apr])), (apk, .inl (cI, 6, .inl pkind)), (apq, .inl (cI, 6, .inl pwsq)), (apr, .inl (cI, 6, .inl pwhr))] H := hP
                  have hD : va_D A [(aq, .inr (1, [.ref ap, .int qgone, .int qmet, .int qstill, .int qdone, .ref aqh, .ref aqw, .ref aqs, .ref aqu])), (aqh, .inl (cI, 6, .inl qhour)), (aqw, .inl (cI, 6, .inl qworn_31)), (aqs, .inl (cI, 5, .inl qsquare)), (aqu, .inl (cI, 5, .inl qunder)), (ap, .inr (2, [.int psq, .int ppa, .int ppe, .int pwo, .ref apk, .ref apq, .ref apr])), (apk, .inl (cI, 6, .inl pkind)), (apq, .inl (cI, 6, .inl pwsq)), (apr, .inl (cI, 6, .inl pwhr))] := hD
                  cases hF
                  rw [hQ]
                  exact xrv hC hP hS dX1_actByDraw_183
            · have hF := op_neg c26 hF
              refine lv_aload_n hx hb dX1_actByDraw_150 rfl (lv_at hl 5 rfl) ?_
              refine lv_iload_n hx hb dX1_actByDraw_151 rfl (lv_at hl 4 rfl) ?_
              refine lv_iload_n hx hb dX1_actByDraw_152 rfl (lv_at hl 3 rfl) ?_
              refine lv_iconst (v := (2 : Int32)) hx hb dX1_actByDraw_153 (by decide) ?_
              refine lv_irem hx hb dX1_actByDraw_154 (by decide) ?_
              obtain ⟨⟨qstill_33, qsquare_34⟩, hb35, hF⟩ := op_bind hF
              refine xVv (As := [.int r1, .int (jrem (d0 / (64 : Int32)) (2 : Int32))]) (rest := []) hC hP hD hS [0, 1, 2, 3, 4, 5, 6, 7, 8] (c_X1_doWalk l D cI cC cM aq aqh aqw aqs aqu ap apk apq apr qgone qmet qstill qdone qhour qworn qsquare qunder psq ppa ppe pwo pkind pwsq pwhr r1 (jrem (d0 / (64 : Int32)) (2 : Int32)) qstill_33 qsquare_34 hb35) (cwV 2 hts gX1_actByDraw_X1_doWalk rfl rfl rfl ⟨rfl, pd_X1_doWalk⟩ ⟨Nat.le_of_ble_eq_true rfl, Nat.le_of_ble_eq_true rfl⟩) rfl rfl rfl 0 1 rfl rfl rfl rfl hl.1 rfl (Nat.le_of_ble_eq_true rfl) dX1_actByDraw_155 ⟨Nat.zero_le _, Nat.zero_le _⟩ (fun H locs hP hD hS => ?_)
              have hP : va_P D vwCl [(aq, .inr (1, [.ref ap, .int qgone, .int qmet, .int qstill_33, .int qdone, .ref aqh, .ref aqw, .ref aqs, .ref aqu])), (aqh, .inl (cI, 6, .inl qhour)), (aqw, .inl (cI, 6, .inl qworn)), (aqs, .inl (cI, 5, .inl qsquare_34)), (aqu, .inl (cI, 5, .inl qunder)), (ap, .inr (2, [.int psq, .int ppa, .int ppe, .int pwo, .ref apk, .ref apq, .ref apr])), (apk, .inl (cI, 6, .inl pkind)), (apq, .inl (cI, 6, .inl pwsq)), (apr, .inl (cI, 6, .inl pwhr))] H := hP
              have hD : va_D A [(aq, .inr (1, [.ref ap, .int qgone, .int qmet, .int qstill_33, .int qdone, .ref aqh, .ref aqw, .ref aqs, .ref aqu])), (aqh, .inl (cI, 6, .inl qhour)), (aqw, .inl (cI, 6, .inl qworn)), (aqs, .inl (cI, 5, .inl qsquare_34)), (aqu, .inl (cI, 5, .inl qunder)), (ap, .inr (2, [.int psq, .int ppa, .int ppe, .int pwo, .ref apk, .ref apq, .ref apr])), (apk, .inl (cI, 6, .inl pkind)), (apq, .inl (cI, 6, .inl pwsq)), (apr, .inl (cI, 6, .inl pwhr))] := hD
              refine lv_goto (tgt := 183) hx hb dX1_actByDraw_158 (by decide) ?_
              cases hF
              rw [hQ]
              exact xrv hC hP hS dX1_actByDraw_183
      · have hF := op_pos c9 hF
        refine lv_aload_n hx hb dX1_actByDraw_110 rfl (lv_at hl 5 rfl) ?_
        refine lv_iload_n hx hb dX1_actByDraw_111 rfl (lv_at hl 4 rfl) ?_
        obtain ⟨r36, hb37, hF⟩ := op_bind hF
        refine xVr (As := [.int r1]) (rest := []) hC hP hD hS [0, 1, 2, 3, 4, 5, 6, 7, 8] (c_X1_canGive l D cI cC cM aq aqh aqw aqs aqu ap apk apq apr qgone qmet qstill qdone qhour qworn qsquare qunder psq ppa ppe pwo pkind pwsq pwhr r1 r36 hb37) (cwV 1 hts gX1_actByDraw_X1_canGive rfl rfl rfl ⟨rfl, pd_X1_canGive⟩ ⟨Nat.le_of_ble_eq_true rfl, Nat.le_of_ble_eq_true rfl⟩) rfl rfl 0 1 rfl rfl rfl rfl hl.1 rfl (Nat.le_of_ble_eq_true rfl) dX1_actByDraw_112 ⟨Nat.zero_le _, Nat.zero_le _⟩ (fun H locs hP hS => ?_)
        refine lv_if_eq (tgt := 126) hx hb dX1_actByDraw_115 (by decide) (fun c38 => ?_) (fun c38 => ?_)
        · have hF := op_pos c38 hF
          refine lv_iload hx hb dX1_actByDraw_126 (lv_at hl 0 rfl) ?_
          refine lv_iconst (v := (4 : Int32)) hx hb dX1_actByDraw_128 (by decide) ?_
          refine lv_icmp_lt (tgt := 161) hx hb dX1_actByDraw_129 (by decide) (fun c39 => ?_) (fun c39 => ?_)
          · have hF := op_pos c39 hF
            refine lv_iload hx hb dX1_actByDraw_161 (lv_at hl 0 rfl) ?_
            refine lv_bipush (v := (7 : Int32)) hx hb dX1_actByDraw_163 (by decide) ?_
            refine lv_icmp_ne (tgt := 183) hx hb dX1_actByDraw_165 (by decide) (fun c40 => ?_) (fun c40 => ?_)
            · have hF := op_neg c40 hF
              cases hF
              rw [hQ]
              exact xrv hC hP hS dX1_actByDraw_183
            · have hF := op_pos c40 hF
              refine lv_aload_n hx hb dX1_actByDraw_168 rfl (lv_at hl 5 rfl) ?_
              refine lv_iload hx hb dX1_actByDraw_169 (lv_at hl 2 rfl) ?_
              obtain ⟨r41, hb42, hF⟩ := op_bind hF
              refine xVr (As := [.int r3]) (rest := []) hC hP hD hS [0, 1, 2, 3, 4, 5, 6, 7, 8] (c_X1_isInStand l D cI cC cM aq aqh aqw aqs aqu ap apk apq apr qgone qmet qstill qdone qhour qworn qsquare qunder psq ppa ppe pwo pkind pwsq pwhr r3 r41 hb42) (cwV 1 hts gX1_actByDraw_X1_isInStand rfl rfl rfl ⟨rfl, pd_X1_isInStand⟩ ⟨Nat.le_of_ble_eq_true rfl, Nat.le_of_ble_eq_true rfl⟩) rfl rfl 0 1 rfl rfl rfl rfl hl.1 rfl (Nat.le_of_ble_eq_true rfl) dX1_actByDraw_171 ⟨Nat.zero_le _, Nat.zero_le _⟩ (fun H locs hP hS => ?_)
              refine lv_if_eq (tgt := 183) hx hb dX1_actByDraw_174 (by decide) (fun c43 => ?_) (fun c43 => ?_)
              · have hF := op_pos c43 hF
                cases hF
                rw [hQ]
                exact xrv hC hP hS dX1_actByDraw_183
              · have hF := op_neg c43 hF
                refine lv_aload_n hx hb dX1_actByDraw_177 rfl (lv_at hl 5 rfl) ?_
                refine lv_iload hx hb dX1_actByDraw_178 (lv_at hl 2 rfl) ?_
                obtain ⟨qworn_44, hb45, hF⟩ := op_bind hF
                refine xVv (As := [.int r3]) (rest := []) hC hP hD hS [0, 1, 2, 3, 4, 5, 6, 7, 8] (c_X1_doMend l D cI cC cM aq aqh aqw aqs aqu ap apk apq apr qgone qmet qstill qdone qhour qworn qsquare qunder psq ppa ppe pwo pkind pwsq pwhr r3 qworn_44 hb45) (cwV 1 hts gX1_actByDraw_X1_doMend rfl rfl rfl ⟨rfl, pd_X1_doMend⟩ ⟨Nat.le_of_ble_eq_true rfl, Nat.le_of_ble_eq_true rfl⟩) rfl rfl rfl 0 1 rfl rfl rfl rfl hl.1 rfl (Nat.le_of_ble_eq_true rfl) dX1_actByDraw_180 ⟨Nat.zero_le _, Nat.zero_le _⟩ (fun H locs hP hD hS => ?_)
                have hP : va_P D vwCl [(aq, .inr (1, [.ref ap, .int qgone, .int qmet, .int qstill, .int qdone, .ref aqh, .ref aqw, .ref aqs, .ref aqu])), (aqh, .inl (cI, 6, .inl qhour)), (aqw, .inl (cI, 6, .inl qworn_44)), (aqs, .inl (cI, 5, .inl qsquare)), (aqu, .inl (cI, 5, .inl qunder)), (ap, .inr (2, [.int psq, .int ppa, .int ppe, .int pwo, .ref apk, .ref apq, .ref apr])), (apk, .inl (cI, 6, .inl pkind)), (apq, .inl (cI, 6, .inl pwsq)), (apr, .inl (cI, 6, .inl pwhr))] H := hP
                have hD : va_D A [(aq, .inr (1, [.ref ap, .int qgone, .int qmet, .int qstill, .int qdone, .ref aqh, .ref aqw, .ref aqs, .ref aqu])), (aqh, .inl (cI, 6, .inl qhour)), (aqw, .inl (cI, 6, .inl qworn_44)), (aqs, .inl (cI, 5, .inl qsquare)), (aqu, .inl (cI, 5, .inl qunder)), (ap, .inr (2, [.int psq, .int ppa, .int ppe, .int pwo, .ref apk, .ref apq, .ref apr])), (apk, .inl (cI, 6, .inl pkind)), (apq, .inl (cI, 6, .inl pwsq)), (apr, .inl (cI, 6, .inl pwhr))] := hD
                cases hF
                rw [hQ]
                exact xrv hC hP hS dX1_actByDraw_183
          · have hF := op_neg c39 hF
            refine lv_iload hx hb dX1_actByDraw_132 (lv_at hl 0 rfl) ?_
            refine lv_bipush (v := (6 : Int32)) hx hb dX1_actByDraw_134 (by decide) ?_
            refine lv_icmp_gt (tgt := 161) hx hb dX1_actByDraw_136 (by decide) (fun c46 => ?_) (fun c46 => ?_)
            · have hF := op_pos c46 hF
              refine lv_iload hx hb dX1_actByDraw_161 (lv_at hl 0 rfl) ?_
              refine lv_bipush (v := (7 : Int32)) hx hb dX1_actByDraw_163 (by decide) ?_
              refine lv_icmp_ne (tgt := 183) hx hb dX1_actByDraw_165 (by decide) (fun c47 => ?_) (fun c47 => ?_)
              · have hF := op_neg c47 hF
                cases hF
                rw [hQ]
                exact xrv hC hP hS dX1_actByDraw_183
              · have hF := op_pos c47 hF
                refine lv_aload_n hx hb dX1_actByDraw_168 rfl (lv_at hl 5 rfl) ?_
                refine lv_iload hx hb dX1_actByDraw_169 (lv_at hl 2 rfl) ?_
                obtain ⟨r48, hb49, hF⟩ := op_bind hF
                refine xVr (As := [.int r3]) (rest := []) hC hP hD hS [0, 1, 2, 3, 4, 5, 6, 7, 8] (c_X1_isInStand l D cI cC cM aq aqh aqw aqs aqu ap apk apq apr qgone qmet qstill qdone qhour qworn qsquare qunder psq ppa ppe pwo pkind pwsq pwhr r3 r48 hb49) (cwV 1 hts gX1_actByDraw_X1_isInStand rfl rfl rfl ⟨rfl, pd_X1_isInStand⟩ ⟨Nat.le_of_ble_eq_true rfl, Nat.le_of_ble_eq_true rfl⟩) rfl rfl 0 1 rfl rfl rfl rfl hl.1 rfl (Nat.le_of_ble_eq_true rfl) dX1_actByDraw_171 ⟨Nat.zero_le _, Nat.zero_le _⟩ (fun H locs hP hS => ?_)
                refine lv_if_eq (tgt := 183) hx hb dX1_actByDraw_174 (by decide) (fun c50 => ?_) (fun c50 => ?_)
                · have hF := op_pos c50 hF
                  cases hF
                  rw [hQ]
                  exact xrv hC hP hS dX1_actByDraw_183
                · have hF := op_neg c50 hF
                  refine lv_aload_n hx hb dX1_actByDraw_177 rfl (lv_at hl 5 rfl) ?_
                  refine lv_iload hx hb dX1_actByDraw_178 (lv_at hl 2 rfl) ?_
                  obtain ⟨qworn_51, hb52, hF⟩ := op_bind hF
                  refine xVv (As := [.int r3]) (rest := []) hC hP hD hS [0, 1, 2, 3, 4, 5, 6, 7, 8] (c_X1_doMend l D cI cC cM aq aqh aqw aqs aqu ap apk apq apr qgone qmet qstill qdone qhour qworn qsquare qunder psq ppa ppe pwo pkind pwsq pwhr r3 qworn_51 hb52) (cwV 1 hts gX1_actByDraw_X1_doMend rfl rfl rfl ⟨rfl, pd_X1_doMend⟩ ⟨Nat.le_of_ble_eq_true rfl, Nat.le_of_ble_eq_true rfl⟩) rfl rfl rfl 0 1 rfl rfl rfl rfl hl.1 rfl (Nat.le_of_ble_eq_true rfl) dX1_actByDraw_180 ⟨Nat.zero_le _, Nat.zero_le _⟩ (fun H locs hP hD hS => ?_)
                  have hP : va_P D vwCl [(aq, .inr (1, [.ref ap, .int qgone, .int qmet, .int qstill, .int qdone, .ref aqh, .ref aqw, .ref aqs, .ref aqu])), (aqh, .inl (cI, 6, .inl qhour)), (aqw, .inl (cI, 6, .inl qworn_51)), (aqs, .inl (cI, 5, .inl qsquare)), (aqu, .inl (cI, 5, .inl qunder)), (ap, .inr (2, [.int psq, .int ppa, .int ppe, .int pwo, .ref apk, .ref apq, .ref apr])), (apk, .inl (cI, 6, .inl pkind)), (apq, .inl (cI, 6, .inl pwsq)), (apr, .inl (cI, 6, .inl pwhr))] H := hP
                  have hD : va_D A [(aq, .inr (1, [.ref ap, .int qgone, .int qmet, .int qstill, .int qdone, .ref aqh, .ref aqw, .ref aqs, .ref aqu])), (aqh, .inl (cI, 6, .inl qhour)), (aqw, .inl (cI, 6, .inl qworn_51)), (aqs, .inl (cI, 5, .inl qsquare)), (aqu, .inl (cI, 5, .inl qunder)), (ap, .inr (2, [.int psq, .int ppa, .int ppe, .int pwo, .ref apk, .ref apq, .ref apr])), (apk, .inl (cI, 6, .inl pkind)), (apq, .inl (cI, 6, .inl pwsq)), (apr, .inl (cI, 6, .inl pwhr))] := hD
                  cases hF
                  rw [hQ]
                  exact xrv hC hP hS dX1_actByDraw_183
            · have hF := op_neg c46 hF
              refine lv_aload_n hx hb dX1_actByDraw_139 rfl (lv_at hl 5 rfl) ?_
              refine lv_iload_n hx hb dX1_actByDraw_140 rfl (lv_at hl 4 rfl) ?_
              refine lv_iload_n hx hb dX1_actByDraw_141 rfl (lv_at hl 3 rfl) ?_
              refine lv_iconst (v := (2 : Int32)) hx hb dX1_actByDraw_142 (by decide) ?_
              refine lv_irem hx hb dX1_actByDraw_143 (by decide) ?_
              obtain ⟨r53, hb54, hF⟩ := op_bind hF
              refine xVr (As := [.int r1, .int (jrem (d0 / (64 : Int32)) (2 : Int32))]) (rest := []) hC hP hD hS [0, 1, 2, 3, 4, 5, 6, 7, 8] (c_X1_canWalk l D cI cC cM aq aqh aqw aqs aqu ap apk apq apr qgone qmet qstill qdone qhour qworn qsquare qunder psq ppa ppe pwo pkind pwsq pwhr r1 (jrem (d0 / (64 : Int32)) (2 : Int32)) r53 hb54) (cwV 2 hts gX1_actByDraw_X1_canWalk rfl rfl rfl ⟨rfl, pd_X1_canWalk⟩ ⟨Nat.le_of_ble_eq_true rfl, Nat.le_of_ble_eq_true rfl⟩) rfl rfl 0 1 rfl rfl rfl rfl hl.1 rfl (Nat.le_of_ble_eq_true rfl) dX1_actByDraw_144 ⟨Nat.zero_le _, Nat.zero_le _⟩ (fun H locs hP hS => ?_)
              refine lv_if_eq (tgt := 161) hx hb dX1_actByDraw_147 (by decide) (fun c55 => ?_) (fun c55 => ?_)
              · have hF := op_pos c55 hF
                refine lv_iload hx hb dX1_actByDraw_161 (lv_at hl 0 rfl) ?_
                refine lv_bipush (v := (7 : Int32)) hx hb dX1_actByDraw_163 (by decide) ?_
                refine lv_icmp_ne (tgt := 183) hx hb dX1_actByDraw_165 (by decide) (fun c56 => ?_) (fun c56 => ?_)
                · have hF := op_neg c56 hF
                  cases hF
                  rw [hQ]
                  exact xrv hC hP hS dX1_actByDraw_183
                · have hF := op_pos c56 hF
                  refine lv_aload_n hx hb dX1_actByDraw_168 rfl (lv_at hl 5 rfl) ?_
                  refine lv_iload hx hb dX1_actByDraw_169 (lv_at hl 2 rfl) ?_
                  obtain ⟨r57, hb58, hF⟩ := op_bind hF
                  refine xVr (As := [.int r3]) (rest := []) hC hP hD hS [0, 1, 2, 3, 4, 5, 6, 7, 8] (c_X1_isInStand l D cI cC cM aq aqh aqw aqs aqu ap apk apq apr qgone qmet qstill qdone qhour qworn qsquare qunder psq ppa ppe pwo pkind pwsq pwhr r3 r57 hb58) (cwV 1 hts gX1_actByDraw_X1_isInStand rfl rfl rfl ⟨rfl, pd_X1_isInStand⟩ ⟨Nat.le_of_ble_eq_true rfl, Nat.le_of_ble_eq_true rfl⟩) rfl rfl 0 1 rfl rfl rfl rfl hl.1 rfl (Nat.le_of_ble_eq_true rfl) dX1_actByDraw_171 ⟨Nat.zero_le _, Nat.zero_le _⟩ (fun H locs hP hS => ?_)
                  refine lv_if_eq (tgt := 183) hx hb dX1_actByDraw_174 (by decide) (fun c59 => ?_) (fun c59 => ?_)
                  · have hF := op_pos c59 hF
                    cases hF
                    rw [hQ]
                    exact xrv hC hP hS dX1_actByDraw_183
                  · have hF := op_neg c59 hF
                    refine lv_aload_n hx hb dX1_actByDraw_177 rfl (lv_at hl 5 rfl) ?_
                    refine lv_iload hx hb dX1_actByDraw_178 (lv_at hl 2 rfl) ?_
                    obtain ⟨qworn_60, hb61, hF⟩ := op_bind hF
                    refine xVv (As := [.int r3]) (rest := []) hC hP hD hS [0, 1, 2, 3, 4, 5, 6, 7, 8] (c_X1_doMend l D cI cC cM aq aqh aqw aqs aqu ap apk apq apr qgone qmet qstill qdone qhour qworn qsquare qunder psq ppa ppe pwo pkind pwsq pwhr r3 qworn_60 hb61) (cwV 1 hts gX1_actByDraw_X1_doMend rfl rfl rfl ⟨rfl, pd_X1_doMend⟩ ⟨Nat.le_of_ble_eq_true rfl, Nat.le_of_ble_eq_true rfl⟩) rfl rfl rfl 0 1 rfl rfl rfl rfl hl.1 rfl (Nat.le_of_ble_eq_true rfl) dX1_actByDraw_180 ⟨Nat.zero_le _, Nat.zero_le _⟩ (fun H locs hP hD hS => ?_)
                    have hP : va_P D vwCl [(aq, .inr (1, [.ref ap, .int qgone, .int qmet, .int qstill, .int qdone, .ref aqh, .ref aqw, .ref aqs, .ref aqu])), (aqh, .inl (cI, 6, .inl qhour)), (aqw, .inl (cI, 6, .inl qworn_60)), (aqs, .inl (cI, 5, .inl qsquare)), (aqu, .inl (cI, 5, .inl qunder)), (ap, .inr (2, [.int psq, .int ppa, .int ppe, .int pwo, .ref apk, .ref apq, .ref apr])), (apk, .inl (cI, 6, .inl pkind)), (apq, .inl (cI, 6, .inl pwsq)), (apr, .inl (cI, 6, .inl pwhr))] H := hP
                    have hD : va_D A [(aq, .inr (1, [.ref ap, .int qgone, .int qmet, .int qstill, .int qdone, .ref aqh, .ref aqw, .ref aqs, .ref aqu])), (aqh, .inl (cI, 6, .inl qhour)), (aqw, .inl (cI, 6, .inl qworn_60)), (aqs, .inl (cI, 5, .inl qsquare)), (aqu, .inl (cI, 5, .inl qunder)), (ap, .inr (2, [.int psq, .int ppa, .int ppe, .int pwo, .ref apk, .ref apq, .ref apr])), (apk, .inl (cI, 6, .inl pkind)), (apq, .inl (cI, 6, .inl pwsq)), (apr, .inl (cI, 6, .inl pwhr))] := hD
                    cases hF
                    rw [hQ]
                    exact xrv hC hP hS dX1_actByDraw_183
              · have hF := op_neg c55 hF
                refine lv_aload_n hx hb dX1_actByDraw_150 rfl (lv_at hl 5 rfl) ?_
                refine lv_iload_n hx hb dX1_actByDraw_151 rfl (lv_at hl 4 rfl) ?_
                refine lv_iload_n hx hb dX1_actByDraw_152 rfl (lv_at hl 3 rfl) ?_
                refine lv_iconst (v := (2 : Int32)) hx hb dX1_actByDraw_153 (by decide) ?_
                refine lv_irem hx hb dX1_actByDraw_154 (by decide) ?_
                obtain ⟨⟨qstill_62, qsquare_63⟩, hb64, hF⟩ := op_bind hF
                refine xVv (As := [.int r1, .int (jrem (d0 / (64 : Int32)) (2 : Int32))]) (rest := []) hC hP hD hS [0, 1, 2, 3, 4, 5, 6, 7, 8] (c_X1_doWalk l D cI cC cM aq aqh aqw aqs aqu ap apk apq apr qgone qmet qstill qdone qhour qworn qsquare qunder psq ppa ppe pwo pkind pwsq pwhr r1 (jrem (d0 / (64 : Int32)) (2 : Int32)) qstill_62 qsquare_63 hb64) (cwV 2 hts gX1_actByDraw_X1_doWalk rfl rfl rfl ⟨rfl, pd_X1_doWalk⟩ ⟨Nat.le_of_ble_eq_true rfl, Nat.le_of_ble_eq_true rfl⟩) rfl rfl rfl 0 1 rfl rfl rfl rfl hl.1 rfl (Nat.le_of_ble_eq_true rfl) dX1_actByDraw_155 ⟨Nat.zero_le _, Nat.zero_le _⟩ (fun H locs hP hD hS => ?_)
                have hP : va_P D vwCl [(aq, .inr (1, [.ref ap, .int qgone, .int qmet, .int qstill_62, .int qdone, .ref aqh, .ref aqw, .ref aqs, .ref aqu])), (aqh, .inl (cI, 6, .inl qhour)), (aqw, .inl (cI, 6, .inl qworn)), (aqs, .inl (cI, 5, .inl qsquare_63)), (aqu, .inl (cI, 5, .inl qunder)), (ap, .inr (2, [.int psq, .int ppa, .int ppe, .int pwo, .ref apk, .ref apq, .ref apr])), (apk, .inl (cI, 6, .inl pkind)), (apq, .inl (cI, 6, .inl pwsq)), (apr, .inl (cI, 6, .inl pwhr))] H := hP
                have hD : va_D A [(aq, .inr (1, [.ref ap, .int qgone, .int qmet, .int qstill_62, .int qdone, .ref aqh, .ref aqw, .ref aqs, .ref aqu])), (aqh, .inl (cI, 6, .inl qhour)), (aqw, .inl (cI, 6, .inl qworn)), (aqs, .inl (cI, 5, .inl qsquare_63)), (aqu, .inl (cI, 5, .inl qunder)), (ap, .inr (2, [.int psq, .int ppa, .int ppe, .int pwo, .ref apk, .ref apq, .ref apr])), (apk, .inl (cI, 6, .inl pkind)), (apq, .inl (cI, 6, .inl pwsq)), (apr, .inl (cI, 6, .inl pwhr))] := hD
                refine lv_goto (tgt := 183) hx hb dX1_actByDraw_158 (by decide) ?_
                cases hF
                rw [hQ]
                exact xrv hC hP hS dX1_actByDraw_183
        · have hF := op_neg c38 hF
          refine lv_aload_n hx hb dX1_actByDraw_118 rfl (lv_at hl 5 rfl) ?_
          refine lv_iload_n hx hb dX1_actByDraw_119 rfl (lv_at hl 4 rfl) ?_
          obtain ⟨qunder_65, hb66, hF⟩ := op_bind hF
          refine xVv (As := [.int r1]) (rest := []) hC hP hD hS [0, 1, 2, 3, 4, 5, 6, 7, 8] (c_X1_doGive l D cI cC cM aq aqh aqw aqs aqu ap apk apq apr qgone qmet qstill qdone qhour qworn qsquare qunder psq ppa ppe pwo pkind pwsq pwhr r1 qunder_65 hb66) (cwV 1 hts gX1_actByDraw_X1_doGive rfl rfl rfl ⟨rfl, pd_X1_doGive⟩ ⟨Nat.le_of_ble_eq_true rfl, Nat.le_of_ble_eq_true rfl⟩) rfl rfl rfl 0 1 rfl rfl rfl rfl hl.1 rfl (Nat.le_of_ble_eq_true rfl) dX1_actByDraw_120 ⟨Nat.zero_le _, Nat.zero_le _⟩ (fun H locs hP hD hS => ?_)
          have hP : va_P D vwCl [(aq, .inr (1, [.ref ap, .int qgone, .int qmet, .int qstill, .int qdone, .ref aqh, .ref aqw, .ref aqs, .ref aqu])), (aqh, .inl (cI, 6, .inl qhour)), (aqw, .inl (cI, 6, .inl qworn)), (aqs, .inl (cI, 5, .inl qsquare)), (aqu, .inl (cI, 5, .inl qunder_65)), (ap, .inr (2, [.int psq, .int ppa, .int ppe, .int pwo, .ref apk, .ref apq, .ref apr])), (apk, .inl (cI, 6, .inl pkind)), (apq, .inl (cI, 6, .inl pwsq)), (apr, .inl (cI, 6, .inl pwhr))] H := hP
          have hD : va_D A [(aq, .inr (1, [.ref ap, .int qgone, .int qmet, .int qstill, .int qdone, .ref aqh, .ref aqw, .ref aqs, .ref aqu])), (aqh, .inl (cI, 6, .inl qhour)), (aqw, .inl (cI, 6, .inl qworn)), (aqs, .inl (cI, 5, .inl qsquare)), (aqu, .inl (cI, 5, .inl qunder_65)), (ap, .inr (2, [.int psq, .int ppa, .int ppe, .int pwo, .ref apk, .ref apq, .ref apr])), (apk, .inl (cI, 6, .inl pkind)), (apq, .inl (cI, 6, .inl pwsq)), (apr, .inl (cI, 6, .inl pwhr))] := hD
          refine lv_goto (tgt := 183) hx hb dX1_actByDraw_123 (by decide) ?_
          cases hF
          rw [hQ]
          exact xrv hC hP hS dX1_actByDraw_183
    · have hF := op_pos c8 hF
      refine lv_aload_n hx hb dX1_actByDraw_84 rfl (lv_at hl 5 rfl) ?_
      refine lv_iload_n hx hb dX1_actByDraw_85 rfl (lv_at hl 4 rfl) ?_
      refine lv_iload hx hb dX1_actByDraw_86 (lv_at hl 1 rfl) ?_
      obtain ⟨r67, hb68, hF⟩ := op_bind hF
      refine xVr (As := [.int r1, .int r5]) (rest := []) hC hP hD hS [0, 1, 2, 3, 4, 5, 6, 7, 8] (c_X1_canShare l D cI cC cM aq aqh aqw aqs aqu ap apk apq apr qgone qmet qstill qdone qhour qworn qsquare qunder psq ppa ppe pwo pkind pwsq pwhr r1 r5 r67 hb68) (cwV 2 hts gX1_actByDraw_X1_canShare rfl rfl rfl ⟨rfl, pd_X1_canShare⟩ ⟨Nat.le_of_ble_eq_true rfl, Nat.le_of_ble_eq_true rfl⟩) rfl rfl 0 1 rfl rfl rfl rfl hl.1 rfl (Nat.le_of_ble_eq_true rfl) dX1_actByDraw_88 ⟨Nat.zero_le _, Nat.zero_le _⟩ (fun H locs hP hS => ?_)
      refine lv_if_eq (tgt := 104) hx hb dX1_actByDraw_91 (by decide) (fun c69 => ?_) (fun c69 => ?_)
      · have hF := op_pos c69 hF
        refine lv_iload hx hb dX1_actByDraw_104 (lv_at hl 0 rfl) ?_
        refine lv_iconst (v := (3 : Int32)) hx hb dX1_actByDraw_106 (by decide) ?_
        refine lv_icmp_ne (tgt := 126) hx hb dX1_actByDraw_107 (by decide) (fun c70 => ?_) (fun c70 => ?_)
        · have hF := op_neg c70 hF
          refine lv_iload hx hb dX1_actByDraw_126 (lv_at hl 0 rfl) ?_
          refine lv_iconst (v := (4 : Int32)) hx hb dX1_actByDraw_128 (by decide) ?_
          refine lv_icmp_lt (tgt := 161) hx hb dX1_actByDraw_129 (by decide) (fun c71 => ?_) (fun c71 => ?_)
          · have hF := op_pos c71 hF
            refine lv_iload hx hb dX1_actByDraw_161 (lv_at hl 0 rfl) ?_
            refine lv_bipush (v := (7 : Int32)) hx hb dX1_actByDraw_163 (by decide) ?_
            refine lv_icmp_ne (tgt := 183) hx hb dX1_actByDraw_165 (by decide) (fun c72 => ?_) (fun c72 => ?_)
            · have hF := op_neg c72 hF
              cases hF
              rw [hQ]
              exact xrv hC hP hS dX1_actByDraw_183
            · have hF := op_pos c72 hF
              refine lv_aload_n hx hb dX1_actByDraw_168 rfl (lv_at hl 5 rfl) ?_
              refine lv_iload hx hb dX1_actByDraw_169 (lv_at hl 2 rfl) ?_
              obtain ⟨r73, hb74, hF⟩ := op_bind hF
              refine xVr (As := [.int r3]) (rest := []) hC hP hD hS [0, 1, 2, 3, 4, 5, 6, 7, 8] (c_X1_isInStand l D cI cC cM aq aqh aqw aqs aqu ap apk apq apr qgone qmet qstill qdone qhour qworn qsquare qunder psq ppa ppe pwo pkind pwsq pwhr r3 r73 hb74) (cwV 1 hts gX1_actByDraw_X1_isInStand rfl rfl rfl ⟨rfl, pd_X1_isInStand⟩ ⟨Nat.le_of_ble_eq_true rfl, Nat.le_of_ble_eq_true rfl⟩) rfl rfl 0 1 rfl rfl rfl rfl hl.1 rfl (Nat.le_of_ble_eq_true rfl) dX1_actByDraw_171 ⟨Nat.zero_le _, Nat.zero_le _⟩ (fun H locs hP hS => ?_)
              refine lv_if_eq (tgt := 183) hx hb dX1_actByDraw_174 (by decide) (fun c75 => ?_) (fun c75 => ?_)
              · have hF := op_pos c75 hF
                cases hF
                rw [hQ]
                exact xrv hC hP hS dX1_actByDraw_183
              · have hF := op_neg c75 hF
                refine lv_aload_n hx hb dX1_actByDraw_177 rfl (lv_at hl 5 rfl) ?_
                refine lv_iload hx hb dX1_actByDraw_178 (lv_at hl 2 rfl) ?_
                obtain ⟨qworn_76, hb77, hF⟩ := op_bind hF
                refine xVv (As := [.int r3]) (rest := []) hC hP hD hS [0, 1, 2, 3, 4, 5, 6, 7, 8] (c_X1_doMend l D cI cC cM aq aqh aqw aqs aqu ap apk apq apr qgone qmet qstill qdone qhour qworn qsquare qunder psq ppa ppe pwo pkind pwsq pwhr r3 qworn_76 hb77) (cwV 1 hts gX1_actByDraw_X1_doMend rfl rfl rfl ⟨rfl, pd_X1_doMend⟩ ⟨Nat.le_of_ble_eq_true rfl, Nat.le_of_ble_eq_true rfl⟩) rfl rfl rfl 0 1 rfl rfl rfl rfl hl.1 rfl (Nat.le_of_ble_eq_true rfl) dX1_actByDraw_180 ⟨Nat.zero_le _, Nat.zero_le _⟩ (fun H locs hP hD hS => ?_)
                have hP : va_P D vwCl [(aq, .inr (1, [.ref ap, .int qgone, .int qmet, .int qstill, .int qdone, .ref aqh, .ref aqw, .ref aqs, .ref aqu])), (aqh, .inl (cI, 6, .inl qhour)), (aqw, .inl (cI, 6, .inl qworn_76)), (aqs, .inl (cI, 5, .inl qsquare)), (aqu, .inl (cI, 5, .inl qunder)), (ap, .inr (2, [.int psq, .int ppa, .int ppe, .int pwo, .ref apk, .ref apq, .ref apr])), (apk, .inl (cI, 6, .inl pkind)), (apq, .inl (cI, 6, .inl pwsq)), (apr, .inl (cI, 6, .inl pwhr))] H := hP
                have hD : va_D A [(aq, .inr (1, [.ref ap, .int qgone, .int qmet, .int qstill, .int qdone, .ref aqh, .ref aqw, .ref aqs, .ref aqu])), (aqh, .inl (cI, 6, .inl qhour)), (aqw, .inl (cI, 6, .inl qworn_76)), (aqs, .inl (cI, 5, .inl qsquare)), (aqu, .inl (cI, 5, .inl qunder)), (ap, .inr (2, [.int psq, .int ppa, .int ppe, .int pwo, .ref apk, .ref apq, .ref apr])), (apk, .inl (cI, 6, .inl pkind)), (apq, .inl (cI, 6, .inl pwsq)), (apr, .inl (cI, 6, .inl pwhr))] := hD
                cases hF
                rw [hQ]
                exact xrv hC hP hS dX1_actByDraw_183
          · have hF := op_neg c71 hF
            refine lv_iload hx hb dX1_actByDraw_132 (lv_at hl 0 rfl) ?_
            refine lv_bipush (v := (6 : Int32)) hx hb dX1_actByDraw_134 (by decide) ?_
            refine lv_icmp_gt (tgt := 161) hx hb dX1_actByDraw_136 (by decide) (fun c78 => ?_) (fun c78 => ?_)
            · have hF := op_pos c78 hF
              refine lv_iload hx hb dX1_actByDraw_161 (lv_at hl 0 rfl) ?_
              refine lv_bipush (v := (7 : Int32)) hx hb dX1_actByDraw_163 (by decide) ?_
              refine lv_icmp_ne (tgt := 183) hx hb dX1_actByDraw_165 (by decide) (fun c79 => ?_) (fun c79 => ?_)
              · have hF := op_neg c79 hF
                cases hF
                rw [hQ]
                exact xrv hC hP hS dX1_actByDraw_183
              · have hF := op_pos c79 hF
                refine lv_aload_n hx hb dX1_actByDraw_168 rfl (lv_at hl 5 rfl) ?_
                refine lv_iload hx hb dX1_actByDraw_169 (lv_at hl 2 rfl) ?_
                obtain ⟨r80, hb81, hF⟩ := op_bind hF
                refine xVr (As := [.int r3]) (rest := []) hC hP hD hS [0, 1, 2, 3, 4, 5, 6, 7, 8] (c_X1_isInStand l D cI cC cM aq aqh aqw aqs aqu ap apk apq apr qgone qmet qstill qdone qhour qworn qsquare qunder psq ppa ppe pwo pkind pwsq pwhr r3 r80 hb81) (cwV 1 hts gX1_actByDraw_X1_isInStand rfl rfl rfl ⟨rfl, pd_X1_isInStand⟩ ⟨Nat.le_of_ble_eq_true rfl, Nat.le_of_ble_eq_true rfl⟩) rfl rfl 0 1 rfl rfl rfl rfl hl.1 rfl (Nat.le_of_ble_eq_true rfl) dX1_actByDraw_171 ⟨Nat.zero_le _, Nat.zero_le _⟩ (fun H locs hP hS => ?_)
                refine lv_if_eq (tgt := 183) hx hb dX1_actByDraw_174 (by decide) (fun c82 => ?_) (fun c82 => ?_)
                · have hF := op_pos c82 hF
                  cases hF
                  rw [hQ]
                  exact xrv hC hP hS dX1_actByDraw_183
                · have hF := op_neg c82 hF
                  refine lv_aload_n hx hb dX1_actByDraw_177 rfl (lv_at hl 5 rfl) ?_
                  refine lv_iload hx hb dX1_actByDraw_178 (lv_at hl 2 rfl) ?_
                  obtain ⟨qworn_83, hb84, hF⟩ := op_bind hF
                  refine xVv (As := [.int r3]) (rest := []) hC hP hD hS [0, 1, 2, 3, 4, 5, 6, 7, 8] (c_X1_doMend l D cI cC cM aq aqh aqw aqs aqu ap apk apq apr qgone qmet qstill qdone qhour qworn qsquare qunder psq ppa ppe pwo pkind pwsq pwhr r3 qworn_83 hb84) (cwV 1 hts gX1_actByDraw_X1_doMend rfl rfl rfl ⟨rfl, pd_X1_doMend⟩ ⟨Nat.le_of_ble_eq_true rfl, Nat.le_of_ble_eq_true rfl⟩) rfl rfl rfl 0 1 rfl rfl rfl rfl hl.1 rfl (Nat.le_of_ble_eq_true rfl) dX1_actByDraw_180 ⟨Nat.zero_le _, Nat.zero_le _⟩ (fun H locs hP hD hS => ?_)
                  have hP : va_P D vwCl [(aq, .inr (1, [.ref ap, .int qgone, .int qmet, .int qstill, .int qdone, .ref aqh, .ref aqw, .ref aqs, .ref aqu])), (aqh, .inl (cI, 6, .inl qhour)), (aqw, .inl (cI, 6, .inl qworn_83)), (aqs, .inl (cI, 5, .inl qsquare)), (aqu, .inl (cI, 5, .inl qunder)), (ap, .inr (2, [.int psq, .int ppa, .int ppe, .int pwo, .ref apk, .ref apq, .ref apr])), (apk, .inl (cI, 6, .inl pkind)), (apq, .inl (cI, 6, .inl pwsq)), (apr, .inl (cI, 6, .inl pwhr))] H := hP
                  have hD : va_D A [(aq, .inr (1, [.ref ap, .int qgone, .int qmet, .int qstill, .int qdone, .ref aqh, .ref aqw, .ref aqs, .ref aqu])), (aqh, .inl (cI, 6, .inl qhour)), (aqw, .inl (cI, 6, .inl qworn_83)), (aqs, .inl (cI, 5, .inl qsquare)), (aqu, .inl (cI, 5, .inl qunder)), (ap, .inr (2, [.int psq, .int ppa, .int ppe, .int pwo, .ref apk, .ref apq, .ref apr])), (apk, .inl (cI, 6, .inl pkind)), (apq, .inl (cI, 6, .inl pwsq)), (apr, .inl (cI, 6, .inl pwhr))] := hD
                  cases hF
                  rw [hQ]
                  exact xrv hC hP hS dX1_actByDraw_183
            · have hF := op_neg c78 hF
              refine lv_aload_n hx hb dX1_actByDraw_139 rfl (lv_at hl 5 rfl) ?_
              refine lv_iload_n hx hb dX1_actByDraw_140 rfl (lv_at hl 4 rfl) ?_
              refine lv_iload_n hx hb dX1_actByDraw_141 rfl (lv_at hl 3 rfl) ?_
              refine lv_iconst (v := (2 : Int32)) hx hb dX1_actByDraw_142 (by decide) ?_
              refine lv_irem hx hb dX1_actByDraw_143 (by decide) ?_
              obtain ⟨r85, hb86, hF⟩ := op_bind hF
              refine xVr (As := [.int r1, .int (jrem (d0 / (64 : Int32)) (2 : Int32))]) (rest := []) hC hP hD hS [0, 1, 2, 3, 4, 5, 6, 7, 8] (c_X1_canWalk l D cI cC cM aq aqh aqw aqs aqu ap apk apq apr qgone qmet qstill qdone qhour qworn qsquare qunder psq ppa ppe pwo pkind pwsq pwhr r1 (jrem (d0 / (64 : Int32)) (2 : Int32)) r85 hb86) (cwV 2 hts gX1_actByDraw_X1_canWalk rfl rfl rfl ⟨rfl, pd_X1_canWalk⟩ ⟨Nat.le_of_ble_eq_true rfl, Nat.le_of_ble_eq_true rfl⟩) rfl rfl 0 1 rfl rfl rfl rfl hl.1 rfl (Nat.le_of_ble_eq_true rfl) dX1_actByDraw_144 ⟨Nat.zero_le _, Nat.zero_le _⟩ (fun H locs hP hS => ?_)
              refine lv_if_eq (tgt := 161) hx hb dX1_actByDraw_147 (by decide) (fun c87 => ?_) (fun c87 => ?_)
              · have hF := op_pos c87 hF
                refine lv_iload hx hb dX1_actByDraw_161 (lv_at hl 0 rfl) ?_
                refine lv_bipush (v := (7 : Int32)) hx hb dX1_actByDraw_163 (by decide) ?_
                refine lv_icmp_ne (tgt := 183) hx hb dX1_actByDraw_165 (by decide) (fun c88 => ?_) (fun c88 => ?_)
                · have hF := op_neg c88 hF
                  cases hF
                  rw [hQ]
                  exact xrv hC hP hS dX1_actByDraw_183
                · have hF := op_pos c88 hF
                  refine lv_aload_n hx hb dX1_actByDraw_168 rfl (lv_at hl 5 rfl) ?_
                  refine lv_iload hx hb dX1_actByDraw_169 (lv_at hl 2 rfl) ?_
                  obtain ⟨r89, hb90, hF⟩ := op_bind hF
                  refine xVr (As := [.int r3]) (rest := []) hC hP hD hS [0, 1, 2, 3, 4, 5, 6, 7, 8] (c_X1_isInStand l D cI cC cM aq aqh aqw aqs aqu ap apk apq apr qgone qmet qstill qdone qhour qworn qsquare qunder psq ppa ppe pwo pkind pwsq pwhr r3 r89 hb90) (cwV 1 hts gX1_actByDraw_X1_isInStand rfl rfl rfl ⟨rfl, pd_X1_isInStand⟩ ⟨Nat.le_of_ble_eq_true rfl, Nat.le_of_ble_eq_true rfl⟩) rfl rfl 0 1 rfl rfl rfl rfl hl.1 rfl (Nat.le_of_ble_eq_true rfl) dX1_actByDraw_171 ⟨Nat.zero_le _, Nat.zero_le _⟩ (fun H locs hP hS => ?_)
                  refine lv_if_eq (tgt := 183) hx hb dX1_actByDraw_174 (by decide) (fun c91 => ?_) (fun c91 => ?_)
                  · have hF := op_pos c91 hF
                    cases hF
                    rw [hQ]
                    exact xrv hC hP hS dX1_actByDraw_183
                  · have hF := op_neg c91 hF
                    refine lv_aload_n hx hb dX1_actByDraw_177 rfl (lv_at hl 5 rfl) ?_
                    refine lv_iload hx hb dX1_actByDraw_178 (lv_at hl 2 rfl) ?_
                    obtain ⟨qworn_92, hb93, hF⟩ := op_bind hF
                    refine xVv (As := [.int r3]) (rest := []) hC hP hD hS [0, 1, 2, 3, 4, 5, 6, 7, 8] (c_X1_doMend l D cI cC cM aq aqh aqw aqs aqu ap apk apq apr qgone qmet qstill qdone qhour qworn qsquare qunder psq ppa ppe pwo pkind pwsq pwhr r3 qworn_92 hb93) (cwV 1 hts gX1_actByDraw_X1_doMend rfl rfl rfl ⟨rfl, pd_X1_doMend⟩ ⟨Nat.le_of_ble_eq_true rfl, Nat.le_of_ble_eq_true rfl⟩) rfl rfl rfl 0 1 rfl rfl rfl rfl hl.1 rfl (Nat.le_of_ble_eq_true rfl) dX1_actByDraw_180 ⟨Nat.zero_le _, Nat.zero_le _⟩ (fun H locs hP hD hS => ?_)
                    have hP : va_P D vwCl [(aq, .inr (1, [.ref ap, .int qgone, .int qmet, .int qstill, .int qdone, .ref aqh, .ref aqw, .ref aqs, .ref aqu])), (aqh, .inl (cI, 6, .inl qhour)), (aqw, .inl (cI, 6, .inl qworn_92)), (aqs, .inl (cI, 5, .inl qsquare)), (aqu, .inl (cI, 5, .inl qunder)), (ap, .inr (2, [.int psq, .int ppa, .int ppe, .int pwo, .ref apk, .ref apq, .ref apr])), (apk, .inl (cI, 6, .inl pkind)), (apq, .inl (cI, 6, .inl pwsq)), (apr, .inl (cI, 6, .inl pwhr))] H := hP
                    have hD : va_D A [(aq, .inr (1, [.ref ap, .int qgone, .int qmet, .int qstill, .int qdone, .ref aqh, .ref aqw, .ref aqs, .ref aqu])), (aqh, .inl (cI, 6, .inl qhour)), (aqw, .inl (cI, 6, .inl qworn_92)), (aqs, .inl (cI, 5, .inl qsquare)), (aqu, .inl (cI, 5, .inl qunder)), (ap, .inr (2, [.int psq, .int ppa, .int ppe, .int pwo, .ref apk, .ref apq, .ref apr])), (apk, .inl (cI, 6, .inl pkind)), (apq, .inl (cI, 6, .inl pwsq)), (apr, .inl (cI, 6, .inl pwhr))] := hD
                    cases hF
                    rw [hQ]
                    exact xrv hC hP hS dX1_actByDraw_183
              · have hF := op_neg c87 hF
                refine lv_aload_n hx hb dX1_actByDraw_150 rfl (lv_at hl 5 rfl) ?_
                refine lv_iload_n hx hb dX1_actByDraw_151 rfl (lv_at hl 4 rfl) ?_
                refine lv_iload_n hx hb dX1_actByDraw_152 rfl (lv_at hl 3 rfl) ?_
                refine lv_iconst (v := (2 : Int32)) hx hb dX1_actByDraw_153 (by decide) ?_
                refine lv_irem hx hb dX1_actByDraw_154 (by decide) ?_
                obtain ⟨⟨qstill_94, qsquare_95⟩, hb96, hF⟩ := op_bind hF
                refine xVv (As := [.int r1, .int (jrem (d0 / (64 : Int32)) (2 : Int32))]) (rest := []) hC hP hD hS [0, 1, 2, 3, 4, 5, 6, 7, 8] (c_X1_doWalk l D cI cC cM aq aqh aqw aqs aqu ap apk apq apr qgone qmet qstill qdone qhour qworn qsquare qunder psq ppa ppe pwo pkind pwsq pwhr r1 (jrem (d0 / (64 : Int32)) (2 : Int32)) qstill_94 qsquare_95 hb96) (cwV 2 hts gX1_actByDraw_X1_doWalk rfl rfl rfl ⟨rfl, pd_X1_doWalk⟩ ⟨Nat.le_of_ble_eq_true rfl, Nat.le_of_ble_eq_true rfl⟩) rfl rfl rfl 0 1 rfl rfl rfl rfl hl.1 rfl (Nat.le_of_ble_eq_true rfl) dX1_actByDraw_155 ⟨Nat.zero_le _, Nat.zero_le _⟩ (fun H locs hP hD hS => ?_)
                have hP : va_P D vwCl [(aq, .inr (1, [.ref ap, .int qgone, .int qmet, .int qstill_94, .int qdone, .ref aqh, .ref aqw, .ref aqs, .ref aqu])), (aqh, .inl (cI, 6, .inl qhour)), (aqw, .inl (cI, 6, .inl qworn)), (aqs, .inl (cI, 5, .inl qsquare_95)), (aqu, .inl (cI, 5, .inl qunder)), (ap, .inr (2, [.int psq, .int ppa, .int ppe, .int pwo, .ref apk, .ref apq, .ref apr])), (apk, .inl (cI, 6, .inl pkind)), (apq, .inl (cI, 6, .inl pwsq)), (apr, .inl (cI, 6, .inl pwhr))] H := hP
                have hD : va_D A [(aq, .inr (1, [.ref ap, .int qgone, .int qmet, .int qstill_94, .int qdone, .ref aqh, .ref aqw, .ref aqs, .ref aqu])), (aqh, .inl (cI, 6, .inl qhour)), (aqw, .inl (cI, 6, .inl qworn)), (aqs, .inl (cI, 5, .inl qsquare_95)), (aqu, .inl (cI, 5, .inl qunder)), (ap, .inr (2, [.int psq, .int ppa, .int ppe, .int pwo, .ref apk, .ref apq, .ref apr])), (apk, .inl (cI, 6, .inl pkind)), (apq, .inl (cI, 6, .inl pwsq)), (apr, .inl (cI, 6, .inl pwhr))] := hD
                refine lv_goto (tgt := 183) hx hb dX1_actByDraw_158 (by decide) ?_
                cases hF
                rw [hQ]
                exact xrv hC hP hS dX1_actByDraw_183
        · have hF := op_pos c70 hF
          refine lv_aload_n hx hb dX1_actByDraw_110 rfl (lv_at hl 5 rfl) ?_
          refine lv_iload_n hx hb dX1_actByDraw_111 rfl (lv_at hl 4 rfl) ?_
          obtain ⟨r97, hb98, hF⟩ := op_bind hF
          refine xVr (As := [.int r1]) (rest := []) hC hP hD hS [0, 1, 2, 3, 4, 5, 6, 7, 8] (c_X1_canGive l D cI cC cM aq aqh aqw aqs aqu ap apk apq apr qgone qmet qstill qdone qhour qworn qsquare qunder psq ppa ppe pwo pkind pwsq pwhr r1 r97 hb98) (cwV 1 hts gX1_actByDraw_X1_canGive rfl rfl rfl ⟨rfl, pd_X1_canGive⟩ ⟨Nat.le_of_ble_eq_true rfl, Nat.le_of_ble_eq_true rfl⟩) rfl rfl 0 1 rfl rfl rfl rfl hl.1 rfl (Nat.le_of_ble_eq_true rfl) dX1_actByDraw_112 ⟨Nat.zero_le _, Nat.zero_le _⟩ (fun H locs hP hS => ?_)
          refine lv_if_eq (tgt := 126) hx hb dX1_actByDraw_115 (by decide) (fun c99 => ?_) (fun c99 => ?_)
          · have hF := op_pos c99 hF
            refine lv_iload hx hb dX1_actByDraw_126 (lv_at hl 0 rfl) ?_
            refine lv_iconst (v := (4 : Int32)) hx hb dX1_actByDraw_128 (by decide) ?_
            refine lv_icmp_lt (tgt := 161) hx hb dX1_actByDraw_129 (by decide) (fun c100 => ?_) (fun c100 => ?_)
            · have hF := op_pos c100 hF
              refine lv_iload hx hb dX1_actByDraw_161 (lv_at hl 0 rfl) ?_
              refine lv_bipush (v := (7 : Int32)) hx hb dX1_actByDraw_163 (by decide) ?_
              refine lv_icmp_ne (tgt := 183) hx hb dX1_actByDraw_165 (by decide) (fun c101 => ?_) (fun c101 => ?_)
              · have hF := op_neg c101 hF
                cases hF
                rw [hQ]
                exact xrv hC hP hS dX1_actByDraw_183
              · have hF := op_pos c101 hF
                refine lv_aload_n hx hb dX1_actByDraw_168 rfl (lv_at hl 5 rfl) ?_
                refine lv_iload hx hb dX1_actByDraw_169 (lv_at hl 2 rfl) ?_
                obtain ⟨r102, hb103, hF⟩ := op_bind hF
                refine xVr (As := [.int r3]) (rest := []) hC hP hD hS [0, 1, 2, 3, 4, 5, 6, 7, 8] (c_X1_isInStand l D cI cC cM aq aqh aqw aqs aqu ap apk apq apr qgone qmet qstill qdone qhour qworn qsquare qunder psq ppa ppe pwo pkind pwsq pwhr r3 r102 hb103) (cwV 1 hts gX1_actByDraw_X1_isInStand rfl rfl rfl ⟨rfl, pd_X1_isInStand⟩ ⟨Nat.le_of_ble_eq_true rfl, Nat.le_of_ble_eq_true rfl⟩) rfl rfl 0 1 rfl rfl rfl rfl hl.1 rfl (Nat.le_of_ble_eq_true rfl) dX1_actByDraw_171 ⟨Nat.zero_le _, Nat.zero_le _⟩ (fun H locs hP hS => ?_)
                refine lv_if_eq (tgt := 183) hx hb dX1_actByDraw_174 (by decide) (fun c104 => ?_) (fun c104 => ?_)
                · have hF := op_pos c104 hF
                  cases hF
                  rw [hQ]
                  exact xrv hC hP hS dX1_actByDraw_183
                · have hF := op_neg c104 hF
                  refine lv_aload_n hx hb dX1_actByDraw_177 rfl (lv_at hl 5 rfl) ?_
                  refine lv_iload hx hb dX1_actByDraw_178 (lv_at hl 2 rfl) ?_
                  obtain ⟨qworn_105, hb106, hF⟩ := op_bind hF
                  refine xVv (As := [.int r3]) (rest := []) hC hP hD hS [0, 1, 2, 3, 4, 5, 6, 7, 8] (c_X1_doMend l D cI cC cM aq aqh aqw aqs aqu ap apk apq apr qgone qmet qstill qdone qhour qworn qsquare qunder psq ppa ppe pwo pkind pwsq pwhr r3 qworn_105 hb106) (cwV 1 hts gX1_actByDraw_X1_doMend rfl rfl rfl ⟨rfl, pd_X1_doMend⟩ ⟨Nat.le_of_ble_eq_true rfl, Nat.le_of_ble_eq_true rfl⟩) rfl rfl rfl 0 1 rfl rfl rfl rfl hl.1 rfl (Nat.le_of_ble_eq_true rfl) dX1_actByDraw_180 ⟨Nat.zero_le _, Nat.zero_le _⟩ (fun H locs hP hD hS => ?_)
                  have hP : va_P D vwCl [(aq, .inr (1, [.ref ap, .int qgone, .int qmet, .int qstill, .int qdone, .ref aqh, .ref aqw, .ref aqs, .ref aqu])), (aqh, .inl (cI, 6, .inl qhour)), (aqw, .inl (cI, 6, .inl qworn_105)), (aqs, .inl (cI, 5, .inl qsquare)), (aqu, .inl (cI, 5, .inl qunder)), (ap, .inr (2, [.int psq, .int ppa, .int ppe, .int pwo, .ref apk, .ref apq, .ref apr])), (apk, .inl (cI, 6, .inl pkind)), (apq, .inl (cI, 6, .inl pwsq)), (apr, .inl (cI, 6, .inl pwhr))] H := hP
                  have hD : va_D A [(aq, .inr (1, [.ref ap, .int qgone, .int qmet, .int qstill, .int qdone, .ref aqh, .ref aqw, .ref aqs, .ref aqu])), (aqh, .inl (cI, 6, .inl qhour)), (aqw, .inl (cI, 6, .inl qworn_105)), (aqs, .inl (cI, 5, .inl qsquare)), (aqu, .inl (cI, 5, .inl qunder)), (ap, .inr (2, [.int psq, .int ppa, .int ppe, .int pwo, .ref apk, .ref apq, .ref apr])), (apk, .inl (cI, 6, .inl pkind)), (apq, .inl (cI, 6, .inl pwsq)), (apr, .inl (cI, 6, .inl pwhr))] := hD
                  cases hF
                  rw [hQ]
                  exact xrv hC hP hS dX1_actByDraw_183
            · have hF := op_neg c100 hF
              refine lv_iload hx hb dX1_actByDraw_132 (lv_at hl 0 rfl) ?_
              refine lv_bipush (v := (6 : Int32)) hx hb dX1_actByDraw_134 (by decide) ?_
              refine lv_icmp_gt (tgt := 161) hx hb dX1_actByDraw_136 (by decide) (fun c107 => ?_) (fun c107 => ?_)
              · have hF := op_pos c107 hF
                refine lv_iload hx hb dX1_actByDraw_161 (lv_at hl 0 rfl) ?_
                refine lv_bipush (v := (7 : Int32)) hx hb dX1_actByDraw_163 (by decide) ?_
                refine lv_icmp_ne (tgt := 183) hx hb dX1_actByDraw_165 (by decide) (fun c108 => ?_) (fun c108 => ?_)
                · have hF := op_neg c108 hF
                  cases hF
                  rw [hQ]
                  exact xrv hC hP hS dX1_actByDraw_183
                · have hF := op_pos c108 hF
                  refine lv_aload_n hx hb dX1_actByDraw_168 rfl (lv_at hl 5 rfl) ?_
                  refine lv_iload hx hb dX1_actByDraw_169 (lv_at hl 2 rfl) ?_
                  obtain ⟨r109, hb110, hF⟩ := op_bind hF
                  refine xVr (As := [.int r3]) (rest := []) hC hP hD hS [0, 1, 2, 3, 4, 5, 6, 7, 8] (c_X1_isInStand l D cI cC cM aq aqh aqw aqs aqu ap apk apq apr qgone qmet qstill qdone qhour qworn qsquare qunder psq ppa ppe pwo pkind pwsq pwhr r3 r109 hb110) (cwV 1 hts gX1_actByDraw_X1_isInStand rfl rfl rfl ⟨rfl, pd_X1_isInStand⟩ ⟨Nat.le_of_ble_eq_true rfl, Nat.le_of_ble_eq_true rfl⟩) rfl rfl 0 1 rfl rfl rfl rfl hl.1 rfl (Nat.le_of_ble_eq_true rfl) dX1_actByDraw_171 ⟨Nat.zero_le _, Nat.zero_le _⟩ (fun H locs hP hS => ?_)
                  refine lv_if_eq (tgt := 183) hx hb dX1_actByDraw_174 (by decide) (fun c111 => ?_) (fun c111 => ?_)
                  · have hF := op_pos c111 hF
                    cases hF
                    rw [hQ]
                    exact xrv hC hP hS dX1_actByDraw_183
                  · have hF := op_neg c111 hF
                    refine lv_aload_n hx hb dX1_actByDraw_177 rfl (lv_at hl 5 rfl) ?_
                    refine lv_iload hx hb dX1_actByDraw_178 (lv_at hl 2 rfl) ?_
                    obtain ⟨qworn_112, hb113, hF⟩ := op_bind hF
                    refine xVv (As := [.int r3]) (rest := []) hC hP hD hS [0, 1, 2, 3, 4, 5, 6, 7, 8] (c_X1_doMend l D cI cC cM aq aqh aqw aqs aqu ap apk apq apr qgone qmet qstill qdone qhour qworn qsquare qunder psq ppa ppe pwo pkind pwsq pwhr r3 qworn_112 hb113) (cwV 1 hts gX1_actByDraw_X1_doMend rfl rfl rfl ⟨rfl, pd_X1_doMend⟩ ⟨Nat.le_of_ble_eq_true rfl, Nat.le_of_ble_eq_true rfl⟩) rfl rfl rfl 0 1 rfl rfl rfl rfl hl.1 rfl (Nat.le_of_ble_eq_true rfl) dX1_actByDraw_180 ⟨Nat.zero_le _, Nat.zero_le _⟩ (fun H locs hP hD hS => ?_)
                    have hP : va_P D vwCl [(aq, .inr (1, [.ref ap, .int qgone, .int qmet, .int qstill, .int qdone, .ref aqh, .ref aqw, .ref aqs, .ref aqu])), (aqh, .inl (cI, 6, .inl qhour)), (aqw, .inl (cI, 6, .inl qworn_112)), (aqs, .inl (cI, 5, .inl qsquare)), (aqu, .inl (cI, 5, .inl qunder)), (ap, .inr (2, [.int psq, .int ppa, .int ppe, .int pwo, .ref apk, .ref apq, .ref apr])), (apk, .inl (cI, 6, .inl pkind)), (apq, .inl (cI, 6, .inl pwsq)), (apr, .inl (cI, 6, .inl pwhr))] H := hP
                    have hD : va_D A [(aq, .inr (1, [.ref ap, .int qgone, .int qmet, .int qstill, .int qdone, .ref aqh, .ref aqw, .ref aqs, .ref aqu])), (aqh, .inl (cI, 6, .inl qhour)), (aqw, .inl (cI, 6, .inl qworn_112)), (aqs, .inl (cI, 5, .inl qsquare)), (aqu, .inl (cI, 5, .inl qunder)), (ap, .inr (2, [.int psq, .int ppa, .int ppe, .int pwo, .ref apk, .ref apq, .ref apr])), (apk, .inl (cI, 6, .inl pkind)), (apq, .inl (cI, 6, .inl pwsq)), (apr, .inl (cI, 6, .inl pwhr))] := hD
                    cases hF
                    rw [hQ]
                    exact xrv hC hP hS dX1_actByDraw_183
              · have hF := op_neg c107 hF
                refine lv_aload_n hx hb dX1_actByDraw_139 rfl (lv_at hl 5 rfl) ?_
                refine lv_iload_n hx hb dX1_actByDraw_140 rfl (lv_at hl 4 rfl) ?_
                refine lv_iload_n hx hb dX1_actByDraw_141 rfl (lv_at hl 3 rfl) ?_
                refine lv_iconst (v := (2 : Int32)) hx hb dX1_actByDraw_142 (by decide) ?_
                refine lv_irem hx hb dX1_actByDraw_143 (by decide) ?_
                obtain ⟨r114, hb115, hF⟩ := op_bind hF
                refine xVr (As := [.int r1, .int (jrem (d0 / (64 : Int32)) (2 : Int32))]) (rest := []) hC hP hD hS [0, 1, 2, 3, 4, 5, 6, 7, 8] (c_X1_canWalk l D cI cC cM aq aqh aqw aqs aqu ap apk apq apr qgone qmet qstill qdone qhour qworn qsquare qunder psq ppa ppe pwo pkind pwsq pwhr r1 (jrem (d0 / (64 : Int32)) (2 : Int32)) r114 hb115) (cwV 2 hts gX1_actByDraw_X1_canWalk rfl rfl rfl ⟨rfl, pd_X1_canWalk⟩ ⟨Nat.le_of_ble_eq_true rfl, Nat.le_of_ble_eq_true rfl⟩) rfl rfl 0 1 rfl rfl rfl rfl hl.1 rfl (Nat.le_of_ble_eq_true rfl) dX1_actByDraw_144 ⟨Nat.zero_le _, Nat.zero_le _⟩ (fun H locs hP hS => ?_)
                refine lv_if_eq (tgt := 161) hx hb dX1_actByDraw_147 (by decide) (fun c116 => ?_) (fun c116 => ?_)
                · have hF := op_pos c116 hF
                  refine lv_iload hx hb dX1_actByDraw_161 (lv_at hl 0 rfl) ?_
                  refine lv_bipush (v := (7 : Int32)) hx hb dX1_actByDraw_163 (by decide) ?_
                  refine lv_icmp_ne (tgt := 183) hx hb dX1_actByDraw_165 (by decide) (fun c117 => ?_) (fun c117 => ?_)
                  · have hF := op_neg c117 hF
                    cases hF
                    rw [hQ]
                    exact xrv hC hP hS dX1_actByDraw_183
                  · have hF := op_pos c117 hF
                    refine lv_aload_n hx hb dX1_actByDraw_168 rfl (lv_at hl 5 rfl) ?_
                    refine lv_iload hx hb dX1_actByDraw_169 (lv_at hl 2 rfl) ?_
                    obtain ⟨r118, hb119, hF⟩ := op_bind hF
                    refine xVr (As := [.int r3]) (rest := []) hC hP hD hS [0, 1, 2, 3, 4, 5, 6, 7, 8] (c_X1_isInStand l D cI cC cM aq aqh aqw aqs aqu ap apk apq apr qgone qmet qstill qdone qhour qworn qsquare qunder psq ppa ppe pwo pkind pwsq pwhr r3 r118 hb119) (cwV 1 hts gX1_actByDraw_X1_isInStand rfl rfl rfl ⟨rfl, pd_X1_isInStand⟩ ⟨Nat.le_of_ble_eq_true rfl, Nat.le_of_ble_eq_true rfl⟩) rfl rfl 0 1 rfl rfl rfl rfl hl.1 rfl (Nat.le_of_ble_eq_true rfl) dX1_actByDraw_171 ⟨Nat.zero_le _, Nat.zero_le _⟩ (fun H locs hP hS => ?_)
                    refine lv_if_eq (tgt := 183) hx hb dX1_actByDraw_174 (by decide) (fun c120 => ?_) (fun c120 => ?_)
                    · have hF := op_pos c120 hF
                      cases hF
                      rw [hQ]
                      exact xrv hC hP hS dX1_actByDraw_183
                    · have hF := op_neg c120 hF
                      refine lv_aload_n hx hb dX1_actByDraw_177 rfl (lv_at hl 5 rfl) ?_
                      refine lv_iload hx hb dX1_actByDraw_178 (lv_at hl 2 rfl) ?_
                      obtain ⟨qworn_121, hb122, hF⟩ := op_bind hF
                      refine xVv (As := [.int r3]) (rest := []) hC hP hD hS [0, 1, 2, 3, 4, 5, 6, 7, 8] (c_X1_doMend l D cI cC cM aq aqh aqw aqs aqu ap apk apq apr qgone qmet qstill qdone qhour qworn qsquare qunder psq ppa ppe pwo pkind pwsq pwhr r3 qworn_121 hb122) (cwV 1 hts gX1_actByDraw_X1_doMend rfl rfl rfl ⟨rfl, pd_X1_doMend⟩ ⟨Nat.le_of_ble_eq_true rfl, Nat.le_of_ble_eq_true rfl⟩) rfl rfl rfl 0 1 rfl rfl rfl rfl hl.1 rfl (Nat.le_of_ble_eq_true rfl) dX1_actByDraw_180 ⟨Nat.zero_le _, Nat.zero_le _⟩ (fun H locs hP hD hS => ?_)
                      have hP : va_P D vwCl [(aq, .inr (1, [.ref ap, .int qgone, .int qmet, .int qstill, .int qdone, .ref aqh, .ref aqw, .ref aqs, .ref aqu])), (aqh, .inl (cI, 6, .inl qhour)), (aqw, .inl (cI, 6, .inl qworn_121)), (aqs, .inl (cI, 5, .inl qsquare)), (aqu, .inl (cI, 5, .inl qunder)), (ap, .inr (2, [.int psq, .int ppa, .int ppe, .int pwo, .ref apk, .ref apq, .ref apr])), (apk, .inl (cI, 6, .inl pkind)), (apq, .inl (cI, 6, .inl pwsq)), (apr, .inl (cI, 6, .inl pwhr))] H := hP
                      have hD : va_D A [(aq, .inr (1, [.ref ap, .int qgone, .int qmet, .int qstill, .int qdone, .ref aqh, .ref aqw, .ref aqs, .ref aqu])), (aqh, .inl (cI, 6, .inl qhour)), (aqw, .inl (cI, 6, .inl qworn_121)), (aqs, .inl (cI, 5, .inl qsquare)), (aqu, .inl (cI, 5, .inl qunder)), (ap, .inr (2, [.int psq, .int ppa, .int ppe, .int pwo, .ref apk, .ref apq, .ref apr])), (apk, .inl (cI, 6, .inl pkind)), (apq, .inl (cI, 6, .inl pwsq)), (apr, .inl (cI, 6, .inl pwhr))] := hD
                      cases hF
                      rw [hQ]
                      exact xrv hC hP hS dX1_actByDraw_183
                · have hF := op_neg c116 hF
                  refine lv_aload_n hx hb dX1_actByDraw_150 rfl (lv_at hl 5 rfl) ?_
                  refine lv_iload_n hx hb dX1_actByDraw_151 rfl (lv_at hl 4 rfl) ?_
                  refine lv_iload_n hx hb dX1_actByDraw_152 rfl (lv_at hl 3 rfl) ?_
                  refine lv_iconst (v := (2 : Int32)) hx hb dX1_actByDraw_153 (by decide) ?_
                  refine lv_irem hx hb dX1_actByDraw_154 (by decide) ?_
                  obtain ⟨⟨qstill_123, qsquare_124⟩, hb125, hF⟩ := op_bind hF
                  refine xVv (As := [.int r1, .int (jrem (d0 / (64 : Int32)) (2 : Int32))]) (rest := []) hC hP hD hS [0, 1, 2, 3, 4, 5, 6, 7, 8] (c_X1_doWalk l D cI cC cM aq aqh aqw aqs aqu ap apk apq apr qgone qmet qstill qdone qhour qworn qsquare qunder psq ppa ppe pwo pkind pwsq pwhr r1 (jrem (d0 / (64 : Int32)) (2 : Int32)) qstill_123 qsquare_124 hb125) (cwV 2 hts gX1_actByDraw_X1_doWalk rfl rfl rfl ⟨rfl, pd_X1_doWalk⟩ ⟨Nat.le_of_ble_eq_true rfl, Nat.le_of_ble_eq_true rfl⟩) rfl rfl rfl 0 1 rfl rfl rfl rfl hl.1 rfl (Nat.le_of_ble_eq_true rfl) dX1_actByDraw_155 ⟨Nat.zero_le _, Nat.zero_le _⟩ (fun H locs hP hD hS => ?_)
                  have hP : va_P D vwCl [(aq, .inr (1, [.ref ap, .int qgone, .int qmet, .int qstill_123, .int qdone, .ref aqh, .ref aqw, .ref aqs, .ref aqu])), (aqh, .inl (cI, 6, .inl qhour)), (aqw, .inl (cI, 6, .inl qworn)), (aqs, .inl (cI, 5, .inl qsquare_124)), (aqu, .inl (cI, 5, .inl qunder)), (ap, .inr (2, [.int psq, .int ppa, .int ppe, .int pwo, .ref apk, .ref apq, .ref apr])), (apk, .inl (cI, 6, .inl pkind)), (apq, .inl (cI, 6, .inl pwsq)), (apr, .inl (cI, 6, .inl pwhr))] H := hP
                  have hD : va_D A [(aq, .inr (1, [.ref ap, .int qgone, .int qmet, .int qstill_123, .int qdone, .ref aqh, .ref aqw, .ref aqs, .ref aqu])), (aqh, .inl (cI, 6, .inl qhour)), (aqw, .inl (cI, 6, .inl qworn)), (aqs, .inl (cI, 5, .inl qsquare_124)), (aqu, .inl (cI, 5, .inl qunder)), (ap, .inr (2, [.int psq, .int ppa, .int ppe, .int pwo, .ref apk, .ref apq, .ref apr])), (apk, .inl (cI, 6, .inl pkind)), (apq, .inl (cI, 6, .inl pwsq)), (apr, .inl (cI, 6, .inl pwhr))] := hD
                  refine lv_goto (tgt := 183) hx hb dX1_actByDraw_158 (by decide) ?_
                  cases hF
                  rw [hQ]
                  exact xrv hC hP hS dX1_actByDraw_183
          · have hF := op_neg c99 hF
            refine lv_aload_n hx hb dX1_actByDraw_118 rfl (lv_at hl 5 rfl) ?_
            refine lv_iload_n hx hb dX1_actByDraw_119 rfl (lv_at hl 4 rfl) ?_
            obtain ⟨qunder_126, hb127, hF⟩ := op_bind hF
            refine xVv (As := [.int r1]) (rest := []) hC hP hD hS [0, 1, 2, 3, 4, 5, 6, 7, 8] (c_X1_doGive l D cI cC cM aq aqh aqw aqs aqu ap apk apq apr qgone qmet qstill qdone qhour qworn qsquare qunder psq ppa ppe pwo pkind pwsq pwhr r1 qunder_126 hb127) (cwV 1 hts gX1_actByDraw_X1_doGive rfl rfl rfl ⟨rfl, pd_X1_doGive⟩ ⟨Nat.le_of_ble_eq_true rfl, Nat.le_of_ble_eq_true rfl⟩) rfl rfl rfl 0 1 rfl rfl rfl rfl hl.1 rfl (Nat.le_of_ble_eq_true rfl) dX1_actByDraw_120 ⟨Nat.zero_le _, Nat.zero_le _⟩ (fun H locs hP hD hS => ?_)
            have hP : va_P D vwCl [(aq, .inr (1, [.ref ap, .int qgone, .int qmet, .int qstill, .int qdone, .ref aqh, .ref aqw, .ref aqs, .ref aqu])), (aqh, .inl (cI, 6, .inl qhour)), (aqw, .inl (cI, 6, .inl qworn)), (aqs, .inl (cI, 5, .inl qsquare)), (aqu, .inl (cI, 5, .inl qunder_126)), (ap, .inr (2, [.int psq, .int ppa, .int ppe, .int pwo, .ref apk, .ref apq, .ref apr])), (apk, .inl (cI, 6, .inl pkind)), (apq, .inl (cI, 6, .inl pwsq)), (apr, .inl (cI, 6, .inl pwhr))] H := hP
            have hD : va_D A [(aq, .inr (1, [.ref ap, .int qgone, .int qmet, .int qstill, .int qdone, .ref aqh, .ref aqw, .ref aqs, .ref aqu])), (aqh, .inl (cI, 6, .inl qhour)), (aqw, .inl (cI, 6, .inl qworn)), (aqs, .inl (cI, 5, .inl qsquare)), (aqu, .inl (cI, 5, .inl qunder_126)), (ap, .inr (2, [.int psq, .int ppa, .int ppe, .int pwo, .ref apk, .ref apq, .ref apr])), (apk, .inl (cI, 6, .inl pkind)), (apq, .inl (cI, 6, .inl pwsq)), (apr, .inl (cI, 6, .inl pwhr))] := hD
            refine lv_goto (tgt := 183) hx hb dX1_actByDraw_123 (by decide) ?_
            cases hF
            rw [hQ]
            exact xrv hC hP hS dX1_actByDraw_183
      · have hF := op_neg c69 hF
        refine lv_aload_n hx hb dX1_actByDraw_94 rfl (lv_at hl 5 rfl) ?_
        refine lv_iload_n hx hb dX1_actByDraw_95 rfl (lv_at hl 4 rfl) ?_
        refine lv_iload hx hb dX1_actByDraw_96 (lv_at hl 1 rfl) ?_
        obtain ⟨⟨qstill_128, qunder_129⟩, hb130, hF⟩ := op_bind hF
        refine xVv (As := [.int r1, .int r5]) (rest := []) hC hP hD hS [0, 1, 2, 3, 4, 5, 6, 7, 8] (c_X1_doShare l D cI cC cM aq aqh aqw aqs aqu ap apk apq apr qgone qmet qstill qdone qhour qworn qsquare qunder psq ppa ppe pwo pkind pwsq pwhr r1 r5 qstill_128 qunder_129 hb130) (cwV 2 hts gX1_actByDraw_X1_doShare rfl rfl rfl ⟨rfl, pd_X1_doShare⟩ ⟨Nat.le_of_ble_eq_true rfl, Nat.le_of_ble_eq_true rfl⟩) rfl rfl rfl 0 1 rfl rfl rfl rfl hl.1 rfl (Nat.le_of_ble_eq_true rfl) dX1_actByDraw_98 ⟨Nat.zero_le _, Nat.zero_le _⟩ (fun H locs hP hD hS => ?_)
        have hP : va_P D vwCl [(aq, .inr (1, [.ref ap, .int qgone, .int qmet, .int qstill_128, .int qdone, .ref aqh, .ref aqw, .ref aqs, .ref aqu])), (aqh, .inl (cI, 6, .inl qhour)), (aqw, .inl (cI, 6, .inl qworn)), (aqs, .inl (cI, 5, .inl qsquare)), (aqu, .inl (cI, 5, .inl qunder_129)), (ap, .inr (2, [.int psq, .int ppa, .int ppe, .int pwo, .ref apk, .ref apq, .ref apr])), (apk, .inl (cI, 6, .inl pkind)), (apq, .inl (cI, 6, .inl pwsq)), (apr, .inl (cI, 6, .inl pwhr))] H := hP
        have hD : va_D A [(aq, .inr (1, [.ref ap, .int qgone, .int qmet, .int qstill_128, .int qdone, .ref aqh, .ref aqw, .ref aqs, .ref aqu])), (aqh, .inl (cI, 6, .inl qhour)), (aqw, .inl (cI, 6, .inl qworn)), (aqs, .inl (cI, 5, .inl qsquare)), (aqu, .inl (cI, 5, .inl qunder_129)), (ap, .inr (2, [.int psq, .int ppa, .int ppe, .int pwo, .ref apk, .ref apq, .ref apr])), (apk, .inl (cI, 6, .inl pkind)), (apq, .inl (cI, 6, .inl pwsq)), (apr, .inl (cI, 6, .inl pwhr))] := hD
        refine lv_goto (tgt := 183) hx hb dX1_actByDraw_101 (by decide) ?_
        cases hF
        rw [hQ]
        exact xrv hC hP hS dX1_actByDraw_183
  · have hF := op_neg c7 hF
    refine lv_aload_n hx hb dX1_actByDraw_58 rfl (lv_at hl 5 rfl) ?_
    refine lv_iload_n hx hb dX1_actByDraw_59 rfl (lv_at hl 4 rfl) ?_
    refine lv_iload hx hb dX1_actByDraw_60 (lv_at hl 2 rfl) ?_
    obtain ⟨r131, hb132, hF⟩ := op_bind hF
    refine xVr (As := [.int r1, .int r3]) (rest := []) hC hP hD hS [0, 1, 2, 3, 4, 5, 6, 7, 8] (c_X1_canTake l D cI cC cM aq aqh aqw aqs aqu ap apk apq apr qgone qmet qstill qdone qhour qworn qsquare qunder psq ppa ppe pwo pkind pwsq pwhr r1 r3 r131 hb132) (cwV 2 hts gX1_actByDraw_X1_canTake rfl rfl rfl ⟨rfl, pd_X1_canTake⟩ ⟨Nat.le_of_ble_eq_true rfl, Nat.le_of_ble_eq_true rfl⟩) rfl rfl 0 1 rfl rfl rfl rfl hl.1 rfl (Nat.le_of_ble_eq_true rfl) dX1_actByDraw_62 ⟨Nat.zero_le _, Nat.zero_le _⟩ (fun H locs hP hS => ?_)
    refine lv_if_eq (tgt := 78) hx hb dX1_actByDraw_65 (by decide) (fun c133 => ?_) (fun c133 => ?_)
    · have hF := op_pos c133 hF
      refine lv_iload hx hb dX1_actByDraw_78 (lv_at hl 0 rfl) ?_
      refine lv_iconst (v := (2 : Int32)) hx hb dX1_actByDraw_80 (by decide) ?_
      refine lv_icmp_ne (tgt := 104) hx hb dX1_actByDraw_81 (by decide) (fun c134 => ?_) (fun c134 => ?_)
      · have hF := op_neg c134 hF
        refine lv_iload hx hb dX1_actByDraw_104 (lv_at hl 0 rfl) ?_
        refine lv_iconst (v := (3 : Int32)) hx hb dX1_actByDraw_106 (by decide) ?_
        refine lv_icmp_ne (tgt := 126) hx hb dX1_actByDraw_107 (by decide) (fun c135 => ?_) (fun c135 => ?_)
        · have hF := op_neg c135 hF
          refine lv_iload hx hb dX1_actByDraw_126 (lv_at hl 0 rfl) ?_
          refine lv_iconst (v := (4 : Int32)) hx hb dX1_actByDraw_128 (by decide) ?_
          refine lv_icmp_lt (tgt := 161) hx hb dX1_actByDraw_129 (by decide) (fun c136 => ?_) (fun c136 => ?_)
          · have hF := op_pos c136 hF
            refine lv_iload hx hb dX1_actByDraw_161 (lv_at hl 0 rfl) ?_
            refine lv_bipush (v := (7 : Int32)) hx hb dX1_actByDraw_163 (by decide) ?_
            refine lv_icmp_ne (tgt := 183) hx hb dX1_actByDraw_165 (by decide) (fun c137 => ?_) (fun c137 => ?_)
            · have hF := op_neg c137 hF
              cases hF
              rw [hQ]
              exact xrv hC hP hS dX1_actByDraw_183
            · have hF := op_pos c137 hF
              refine lv_aload_n hx hb dX1_actByDraw_168 rfl (lv_at hl 5 rfl) ?_
              refine lv_iload hx hb dX1_actByDraw_169 (lv_at hl 2 rfl) ?_
              obtain ⟨r138, hb139, hF⟩ := op_bind hF
              refine xVr (As := [.int r3]) (rest := []) hC hP hD hS [0, 1, 2, 3, 4, 5, 6, 7, 8] (c_X1_isInStand l D cI cC cM aq aqh aqw aqs aqu ap apk apq apr qgone qmet qstill qdone qhour qworn qsquare qunder psq ppa ppe pwo pkind pwsq pwhr r3 r138 hb139) (cwV 1 hts gX1_actByDraw_X1_isInStand rfl rfl rfl ⟨rfl, pd_X1_isInStand⟩ ⟨Nat.le_of_ble_eq_true rfl, Nat.le_of_ble_eq_true rfl⟩) rfl rfl 0 1 rfl rfl rfl rfl hl.1 rfl (Nat.le_of_ble_eq_true rfl) dX1_actByDraw_171 ⟨Nat.zero_le _, Nat.zero_le _⟩ (fun H locs hP hS => ?_)
              refine lv_if_eq (tgt := 183) hx hb dX1_actByDraw_174 (by decide) (fun c140 => ?_) (fun c140 => ?_)
              · have hF := op_pos c140 hF
                cases hF
                rw [hQ]
                exact xrv hC hP hS dX1_actByDraw_183
              · have hF := op_neg c140 hF
                refine lv_aload_n hx hb dX1_actByDraw_177 rfl (lv_at hl 5 rfl) ?_
                refine lv_iload hx hb dX1_actByDraw_178 (lv_at hl 2 rfl) ?_
                obtain ⟨qworn_141, hb142, hF⟩ := op_bind hF
                refine xVv (As := [.int r3]) (rest := []) hC hP hD hS [0, 1, 2, 3, 4, 5, 6, 7, 8] (c_X1_doMend l D cI cC cM aq aqh aqw aqs aqu ap apk apq apr qgone qmet qstill qdone qhour qworn qsquare qunder psq ppa ppe pwo pkind pwsq pwhr r3 qworn_141 hb142) (cwV 1 hts gX1_actByDraw_X1_doMend rfl rfl rfl ⟨rfl, pd_X1_doMend⟩ ⟨Nat.le_of_ble_eq_true rfl, Nat.le_of_ble_eq_true rfl⟩) rfl rfl rfl 0 1 rfl rfl rfl rfl hl.1 rfl (Nat.le_of_ble_eq_true rfl) dX1_actByDraw_180 ⟨Nat.zero_le _, Nat.zero_le _⟩ (fun H locs hP hD hS => ?_)
                have hP : va_P D vwCl [(aq, .inr (1, [.ref ap, .int qgone, .int qmet, .int qstill, .int qdone, .ref aqh, .ref aqw, .ref aqs, .ref aqu])), (aqh, .inl (cI, 6, .inl qhour)), (aqw, .inl (cI, 6, .inl qworn_141)), (aqs, .inl (cI, 5, .inl qsquare)), (aqu, .inl (cI, 5, .inl qunder)), (ap, .inr (2, [.int psq, .int ppa, .int ppe, .int pwo, .ref apk, .ref apq, .ref apr])), (apk, .inl (cI, 6, .inl pkind)), (apq, .inl (cI, 6, .inl pwsq)), (apr, .inl (cI, 6, .inl pwhr))] H := hP
                have hD : va_D A [(aq, .inr (1, [.ref ap, .int qgone, .int qmet, .int qstill, .int qdone, .ref aqh, .ref aqw, .ref aqs, .ref aqu])), (aqh, .inl (cI, 6, .inl qhour)), (aqw, .inl (cI, 6, .inl qworn_141)), (aqs, .inl (cI, 5, .inl qsquare)), (aqu, .inl (cI, 5, .inl qunder)), (ap, .inr (2, [.int psq, .int ppa, .int ppe, .int pwo, .ref apk, .ref apq, .ref apr])), (apk, .inl (cI, 6, .inl pkind)), (apq, .inl (cI, 6, .inl pwsq)), (apr, .inl (cI, 6, .inl pwhr))] := hD
                cases hF
                rw [hQ]
                exact xrv hC hP hS dX1_actByDraw_183
          · have hF := op_neg c136 hF
            refine lv_iload hx hb dX1_actByDraw_132 (lv_at hl 0 rfl) ?_
            refine lv_bipush (v := (6 : Int32)) hx hb dX1_actByDraw_134 (by decide) ?_
            refine lv_icmp_gt (tgt := 161) hx hb dX1_actByDraw_136 (by decide) (fun c143 => ?_) (fun c143 => ?_)
            · have hF := op_pos c143 hF
              refine lv_iload hx hb dX1_actByDraw_161 (lv_at hl 0 rfl) ?_
              refine lv_bipush (v := (7 : Int32)) hx hb dX1_actByDraw_163 (by decide) ?_
              refine lv_icmp_ne (tgt := 183) hx hb dX1_actByDraw_165 (by decide) (fun c144 => ?_) (fun c144 => ?_)
              · have hF := op_neg c144 hF
                cases hF
                rw [hQ]
                exact xrv hC hP hS dX1_actByDraw_183
              · have hF := op_pos c144 hF
                refine lv_aload_n hx hb dX1_actByDraw_168 rfl (lv_at hl 5 rfl) ?_
                refine lv_iload hx hb dX1_actByDraw_169 (lv_at hl 2 rfl) ?_
                obtain ⟨r145, hb146, hF⟩ := op_bind hF
                refine xVr (As := [.int r3]) (rest := []) hC hP hD hS [0, 1, 2, 3, 4, 5, 6, 7, 8] (c_X1_isInStand l D cI cC cM aq aqh aqw aqs aqu ap apk apq apr qgone qmet qstill qdone qhour qworn qsquare qunder psq ppa ppe pwo pkind pwsq pwhr r3 r145 hb146) (cwV 1 hts gX1_actByDraw_X1_isInStand rfl rfl rfl ⟨rfl, pd_X1_isInStand⟩ ⟨Nat.le_of_ble_eq_true rfl, Nat.le_of_ble_eq_true rfl⟩) rfl rfl 0 1 rfl rfl rfl rfl hl.1 rfl (Nat.le_of_ble_eq_true rfl) dX1_actByDraw_171 ⟨Nat.zero_le _, Nat.zero_le _⟩ (fun H locs hP hS => ?_)
                refine lv_if_eq (tgt := 183) hx hb dX1_actByDraw_174 (by decide) (fun c147 => ?_) (fun c147 => ?_)
                · have hF := op_pos c147 hF
                  cases hF
                  rw [hQ]
                  exact xrv hC hP hS dX1_actByDraw_183
                · have hF := op_neg c147 hF
                  refine lv_aload_n hx hb dX1_actByDraw_177 rfl (lv_at hl 5 rfl) ?_
                  refine lv_iload hx hb dX1_actByDraw_178 (lv_at hl 2 rfl) ?_
                  obtain ⟨qworn_148, hb149, hF⟩ := op_bind hF
                  refine xVv (As := [.int r3]) (rest := []) hC hP hD hS [0, 1, 2, 3, 4, 5, 6, 7, 8] (c_X1_doMend l D cI cC cM aq aqh aqw aqs aqu ap apk apq apr qgone qmet qstill qdone qhour qworn qsquare qunder psq ppa ppe pwo pkind pwsq pwhr r3 qworn_148 hb149) (cwV 1 hts gX1_actByDraw_X1_doMend rfl rfl rfl ⟨rfl, pd_X1_doMend⟩ ⟨Nat.le_of_ble_eq_true rfl, Nat.le_of_ble_eq_true rfl⟩) rfl rfl rfl 0 1 rfl rfl rfl rfl hl.1 rfl (Nat.le_of_ble_eq_true rfl) dX1_actByDraw_180 ⟨Nat.zero_le _, Nat.zero_le _⟩ (fun H locs hP hD hS => ?_)
                  have hP : va_P D vwCl [(aq, .inr (1, [.ref ap, .int qgone, .int qmet, .int qstill, .int qdone, .ref aqh, .ref aqw, .ref aqs, .ref aqu])), (aqh, .inl (cI, 6, .inl qhour)), (aqw, .inl (cI, 6, .inl qworn_148)), (aqs, .inl (cI, 5, .inl qsquare)), (aqu, .inl (cI, 5, .inl qunder)), (ap, .inr (2, [.int psq, .int ppa, .int ppe, .int pwo, .ref apk, .ref apq, .ref apr])), (apk, .inl (cI, 6, .inl pkind)), (apq, .inl (cI, 6, .inl pwsq)), (apr, .inl (cI, 6, .inl pwhr))] H := hP
                  have hD : va_D A [(aq, .inr (1, [.ref ap, .int qgone, .int qmet, .int qstill, .int qdone, .ref aqh, .ref aqw, .ref aqs, .ref aqu])), (aqh, .inl (cI, 6, .inl qhour)), (aqw, .inl (cI, 6, .inl qworn_148)), (aqs, .inl (cI, 5, .inl qsquare)), (aqu, .inl (cI, 5, .inl qunder)), (ap, .inr (2, [.int psq, .int ppa, .int ppe, .int pwo, .ref apk, .ref apq, .ref apr])), (apk, .inl (cI, 6, .inl pkind)), (apq, .inl (cI, 6, .inl pwsq)), (apr, .inl (cI, 6, .inl pwhr))] := hD
                  cases hF
                  rw [hQ]
                  exact xrv hC hP hS dX1_actByDraw_183
            · have hF := op_neg c143 hF
              refine lv_aload_n hx hb dX1_actByDraw_139 rfl (lv_at hl 5 rfl) ?_
              refine lv_iload_n hx hb dX1_actByDraw_140 rfl (lv_at hl 4 rfl) ?_
              refine lv_iload_n hx hb dX1_actByDraw_141 rfl (lv_at hl 3 rfl) ?_
              refine lv_iconst (v := (2 : Int32)) hx hb dX1_actByDraw_142 (by decide) ?_
              refine lv_irem hx hb dX1_actByDraw_143 (by decide) ?_
              obtain ⟨r150, hb151, hF⟩ := op_bind hF
              refine xVr (As := [.int r1, .int (jrem (d0 / (64 : Int32)) (2 : Int32))]) (rest := []) hC hP hD hS [0, 1, 2, 3, 4, 5, 6, 7, 8] (c_X1_canWalk l D cI cC cM aq aqh aqw aqs aqu ap apk apq apr qgone qmet qstill qdone qhour qworn qsquare qunder psq ppa ppe pwo pkind pwsq pwhr r1 (jrem (d0 / (64 : Int32)) (2 : Int32)) r150 hb151) (cwV 2 hts gX1_actByDraw_X1_canWalk rfl rfl rfl ⟨rfl, pd_X1_canWalk⟩ ⟨Nat.le_of_ble_eq_true rfl, Nat.le_of_ble_eq_true rfl⟩) rfl rfl 0 1 rfl rfl rfl rfl hl.1 rfl (Nat.le_of_ble_eq_true rfl) dX1_actByDraw_144 ⟨Nat.zero_le _, Nat.zero_le _⟩ (fun H locs hP hS => ?_)
              refine lv_if_eq (tgt := 161) hx hb dX1_actByDraw_147 (by decide) (fun c152 => ?_) (fun c152 => ?_)
              · have hF := op_pos c152 hF
                refine lv_iload hx hb dX1_actByDraw_161 (lv_at hl 0 rfl) ?_
                refine lv_bipush (v := (7 : Int32)) hx hb dX1_actByDraw_163 (by decide) ?_
                refine lv_icmp_ne (tgt := 183) hx hb dX1_actByDraw_165 (by decide) (fun c153 => ?_) (fun c153 => ?_)
                · have hF := op_neg c153 hF
                  cases hF
                  rw [hQ]
                  exact xrv hC hP hS dX1_actByDraw_183
                · have hF := op_pos c153 hF
                  refine lv_aload_n hx hb dX1_actByDraw_168 rfl (lv_at hl 5 rfl) ?_
                  refine lv_iload hx hb dX1_actByDraw_169 (lv_at hl 2 rfl) ?_
                  obtain ⟨r154, hb155, hF⟩ := op_bind hF
                  refine xVr (As := [.int r3]) (rest := []) hC hP hD hS [0, 1, 2, 3, 4, 5, 6, 7, 8] (c_X1_isInStand l D cI cC cM aq aqh aqw aqs aqu ap apk apq apr qgone qmet qstill qdone qhour qworn qsquare qunder psq ppa ppe pwo pkind pwsq pwhr r3 r154 hb155) (cwV 1 hts gX1_actByDraw_X1_isInStand rfl rfl rfl ⟨rfl, pd_X1_isInStand⟩ ⟨Nat.le_of_ble_eq_true rfl, Nat.le_of_ble_eq_true rfl⟩) rfl rfl 0 1 rfl rfl rfl rfl hl.1 rfl (Nat.le_of_ble_eq_true rfl) dX1_actByDraw_171 ⟨Nat.zero_le _, Nat.zero_le _⟩ (fun H locs hP hS => ?_)
                  refine lv_if_eq (tgt := 183) hx hb dX1_actByDraw_174 (by decide) (fun c156 => ?_) (fun c156 => ?_)
                  · have hF := op_pos c156 hF
                    cases hF
                    rw [hQ]
                    exact xrv hC hP hS dX1_actByDraw_183
                  · have hF := op_neg c156 hF
                    refine lv_aload_n hx hb dX1_actByDraw_177 rfl (lv_at hl 5 rfl) ?_
                    refine lv_iload hx hb dX1_actByDraw_178 (lv_at hl 2 rfl) ?_
                    obtain ⟨qworn_157, hb158, hF⟩ := op_bind hF
                    refine xVv (As := [.int r3]) (rest := []) hC hP hD hS [0, 1, 2, 3, 4, 5, 6, 7, 8] (c_X1_doMend l D cI cC cM aq aqh aqw aqs aqu ap apk apq apr qgone qmet qstill qdone qhour qworn qsquare qunder psq ppa ppe pwo pkind pwsq pwhr r3 qworn_157 hb158) (cwV 1 hts gX1_actByDraw_X1_doMend rfl rfl rfl ⟨rfl, pd_X1_doMend⟩ ⟨Nat.le_of_ble_eq_true rfl, Nat.le_of_ble_eq_true rfl⟩) rfl rfl rfl 0 1 rfl rfl rfl rfl hl.1 rfl (Nat.le_of_ble_eq_true rfl) dX1_actByDraw_180 ⟨Nat.zero_le _, Nat.zero_le _⟩ (fun H locs hP hD hS => ?_)
                    have hP : va_P D vwCl [(aq, .inr (1, [.ref ap, .int qgone, .int qmet, .int qstill, .int qdone, .ref aqh, .ref aqw, .ref aqs, .ref aqu])), (aqh, .inl (cI, 6, .inl qhour)), (aqw, .inl (cI, 6, .inl qworn_157)), (aqs, .inl (cI, 5, .inl qsquare)), (aqu, .inl (cI, 5, .inl qunder)), (ap, .inr (2, [.int psq, .int ppa, .int ppe, .int pwo, .ref apk, .ref apq, .ref apr])), (apk, .inl (cI, 6, .inl pkind)), (apq, .inl (cI, 6, .inl pwsq)), (apr, .inl (cI, 6, .inl pwhr))] H := hP
                    have hD : va_D A [(aq, .inr (1, [.ref ap, .int qgone, .int qmet, .int qstill, .int qdone, .ref aqh, .ref aqw, .ref aqs, .ref aqu])), (aqh, .inl (cI, 6, .inl qhour)), (aqw, .inl (cI, 6, .inl qworn_157)), (aqs, .inl (cI, 5, .inl qsquare)), (aqu, .inl (cI, 5, .inl qunder)), (ap, .inr (2, [.int psq, .int ppa, .int ppe, .int pwo, .ref apk, .ref apq, .ref apr])), (apk, .inl (cI, 6, .inl pkind)), (apq, .inl (cI, 6, .inl pwsq)), (apr, .inl (cI, 6, .inl pwhr))] := hD
                    cases hF
                    rw [hQ]
                    exact xrv hC hP hS dX1_actByDraw_183
              · have hF := op_neg c152 hF
                refine lv_aload_n hx hb dX1_actByDraw_150 rfl (lv_at hl 5 rfl) ?_
                refine lv_iload_n hx hb dX1_actByDraw_151 rfl (lv_at hl 4 rfl) ?_
                refine lv_iload_n hx hb dX1_actByDraw_152 rfl (lv_at hl 3 rfl) ?_
                refine lv_iconst (v := (2 : Int32)) hx hb dX1_actByDraw_153 (by decide) ?_
                refine lv_irem hx hb dX1_actByDraw_154 (by decide) ?_
                obtain ⟨⟨qstill_159, qsquare_160⟩, hb161, hF⟩ := op_bind hF
                refine xVv (As := [.int r1, .int (jrem (d0 / (64 : Int32)) (2 : Int32))]) (rest := []) hC hP hD hS [0, 1, 2, 3, 4, 5, 6, 7, 8] (c_X1_doWalk l D cI cC cM aq aqh aqw aqs aqu ap apk apq apr qgone qmet qstill qdone qhour qworn qsquare qunder psq ppa ppe pwo pkind pwsq pwhr r1 (jrem (d0 / (64 : Int32)) (2 : Int32)) qstill_159 qsquare_160 hb161) (cwV 2 hts gX1_actByDraw_X1_doWalk rfl rfl rfl ⟨rfl, pd_X1_doWalk⟩ ⟨Nat.le_of_ble_eq_true rfl, Nat.le_of_ble_eq_true rfl⟩) rfl rfl rfl 0 1 rfl rfl rfl rfl hl.1 rfl (Nat.le_of_ble_eq_true rfl) dX1_actByDraw_155 ⟨Nat.zero_le _, Nat.zero_le _⟩ (fun H locs hP hD hS => ?_)
                have hP : va_P D vwCl [(aq, .inr (1, [.ref ap, .int qgone, .int qmet, .int qstill_159, .int qdone, .ref aqh, .ref aqw, .ref aqs, .ref aqu])), (aqh, .inl (cI, 6, .inl qhour)), (aqw, .inl (cI, 6, .inl qworn)), (aqs, .inl (cI, 5, .inl qsquare_160)), (aqu, .inl (cI, 5, .inl qunder)), (ap, .inr (2, [.int psq, .int ppa, .int ppe, .int pwo, .ref apk, .ref apq, .ref apr])), (apk, .inl (cI, 6, .inl pkind)), (apq, .inl (cI, 6, .inl pwsq)), (apr, .inl (cI, 6, .inl pwhr))] H := hP
                have hD : va_D A [(aq, .inr (1, [.ref ap, .int qgone, .int qmet, .int qstill_159, .int qdone, .ref aqh, .ref aqw, .ref aqs, .ref aqu])), (aqh, .inl (cI, 6, .inl qhour)), (aqw, .inl (cI, 6, .inl qworn)), (aqs, .inl (cI, 5, .inl qsquare_160)), (aqu, .inl (cI, 5, .inl qunder)), (ap, .inr (2, [.int psq, .int ppa, .int ppe, .int pwo, .ref apk, .ref apq, .ref apr])), (apk, .inl (cI, 6, .inl pkind)), (apq, .inl (cI, 6, .inl pwsq)), (apr, .inl (cI, 6, .inl pwhr))] := hD
                refine lv_goto (tgt := 183) hx hb dX1_actByDraw_158 (by decide) ?_
                cases hF
                rw [hQ]
                exact xrv hC hP hS dX1_actByDraw_183
        · have hF := op_pos c135 hF
          refine lv_aload_n hx hb dX1_actByDraw_110 rfl (lv_at hl 5 rfl) ?_
          refine lv_iload_n hx hb dX1_actByDraw_111 rfl (lv_at hl 4 rfl) ?_
          obtain ⟨r162, hb163, hF⟩ := op_bind hF
          refine xVr (As := [.int r1]) (rest := []) hC hP hD hS [0, 1, 2, 3, 4, 5, 6, 7, 8] (c_X1_canGive l D cI cC cM aq aqh aqw aqs aqu ap apk apq apr qgone qmet qstill qdone qhour qworn qsquare qunder psq ppa ppe pwo pkind pwsq pwhr r1 r162 hb163) (cwV 1 hts gX1_actByDraw_X1_canGive rfl rfl rfl ⟨rfl, pd_X1_canGive⟩ ⟨Nat.le_of_ble_eq_true rfl, Nat.le_of_ble_eq_true rfl⟩) rfl rfl 0 1 rfl rfl rfl rfl hl.1 rfl (Nat.le_of_ble_eq_true rfl) dX1_actByDraw_112 ⟨Nat.zero_le _, Nat.zero_le _⟩ (fun H locs hP hS => ?_)
          refine lv_if_eq (tgt := 126) hx hb dX1_actByDraw_115 (by decide) (fun c164 => ?_) (fun c164 => ?_)
          · have hF := op_pos c164 hF
            refine lv_iload hx hb dX1_actByDraw_126 (lv_at hl 0 rfl) ?_
            refine lv_iconst (v := (4 : Int32)) hx hb dX1_actByDraw_128 (by decide) ?_
            refine lv_icmp_lt (tgt := 161) hx hb dX1_actByDraw_129 (by decide) (fun c165 => ?_) (fun c165 => ?_)
            · have hF := op_pos c165 hF
              refine lv_iload hx hb dX1_actByDraw_161 (lv_at hl 0 rfl) ?_
              refine lv_bipush (v := (7 : Int32)) hx hb dX1_actByDraw_163 (by decide) ?_
              refine lv_icmp_ne (tgt := 183) hx hb dX1_actByDraw_165 (by decide) (fun c166 => ?_) (fun c166 => ?_)
              · have hF := op_neg c166 hF
                cases hF
                rw [hQ]
                exact xrv hC hP hS dX1_actByDraw_183
              · have hF := op_pos c166 hF
                refine lv_aload_n hx hb dX1_actByDraw_168 rfl (lv_at hl 5 rfl) ?_
                refine lv_iload hx hb dX1_actByDraw_169 (lv_at hl 2 rfl) ?_
                obtain ⟨r167, hb168, hF⟩ := op_bind hF
                refine xVr (As := [.int r3]) (rest := []) hC hP hD hS [0, 1, 2, 3, 4, 5, 6, 7, 8] (c_X1_isInStand l D cI cC cM aq aqh aqw aqs aqu ap apk apq apr qgone qmet qstill qdone qhour qworn qsquare qunder psq ppa ppe pwo pkind pwsq pwhr r3 r167 hb168) (cwV 1 hts gX1_actByDraw_X1_isInStand rfl rfl rfl ⟨rfl, pd_X1_isInStand⟩ ⟨Nat.le_of_ble_eq_true rfl, Nat.le_of_ble_eq_true rfl⟩) rfl rfl 0 1 rfl rfl rfl rfl hl.1 rfl (Nat.le_of_ble_eq_true rfl) dX1_actByDraw_171 ⟨Nat.zero_le _, Nat.zero_le _⟩ (fun H locs hP hS => ?_)
                refine lv_if_eq (tgt := 183) hx hb dX1_actByDraw_174 (by decide) (fun c169 => ?_) (fun c169 => ?_)
                · have hF := op_pos c169 hF
                  cases hF
                  rw [hQ]
                  exact xrv hC hP hS dX1_actByDraw_183
                · have hF := op_neg c169 hF
                  refine lv_aload_n hx hb dX1_actByDraw_177 rfl (lv_at hl 5 rfl) ?_
                  refine lv_iload hx hb dX1_actByDraw_178 (lv_at hl 2 rfl) ?_
                  obtain ⟨qworn_170, hb171, hF⟩ := op_bind hF
                  refine xVv (As := [.int r3]) (rest := []) hC hP hD hS [0, 1, 2, 3, 4, 5, 6, 7, 8] (c_X1_doMend l D cI cC cM aq aqh aqw aqs aqu ap apk apq apr qgone qmet qstill qdone qhour qworn qsquare qunder psq ppa ppe pwo pkind pwsq pwhr r3 qworn_170 hb171) (cwV 1 hts gX1_actByDraw_X1_doMend rfl rfl rfl ⟨rfl, pd_X1_doMend⟩ ⟨Nat.le_of_ble_eq_true rfl, Nat.le_of_ble_eq_true rfl⟩) rfl rfl rfl 0 1 rfl rfl rfl rfl hl.1 rfl (Nat.le_of_ble_eq_true rfl) dX1_actByDraw_180 ⟨Nat.zero_le _, Nat.zero_le _⟩ (fun H locs hP hD hS => ?_)
                  have hP : va_P D vwCl [(aq, .inr (1, [.ref ap, .int qgone, .int qmet, .int qstill, .int qdone, .ref aqh, .ref aqw, .ref aqs, .ref aqu])), (aqh, .inl (cI, 6, .inl qhour)), (aqw, .inl (cI, 6, .inl qworn_170)), (aqs, .inl (cI, 5, .inl qsquare)), (aqu, .inl (cI, 5, .inl qunder)), (ap, .inr (2, [.int psq, .int ppa, .int ppe, .int pwo, .ref apk, .ref apq, .ref apr])), (apk, .inl (cI, 6, .inl pkind)), (apq, .inl (cI, 6, .inl pwsq)), (apr, .inl (cI, 6, .inl pwhr))] H := hP
                  have hD : va_D A [(aq, .inr (1, [.ref ap, .int qgone, .int qmet, .int qstill, .int qdone, .ref aqh, .ref aqw, .ref aqs, .ref aqu])), (aqh, .inl (cI, 6, .inl qhour)), (aqw, .inl (cI, 6, .inl qworn_170)), (aqs, .inl (cI, 5, .inl qsquare)), (aqu, .inl (cI, 5, .inl qunder)), (ap, .inr (2, [.int psq, .int ppa, .int ppe, .int pwo, .ref apk, .ref apq, .ref apr])), (apk, .inl (cI, 6, .inl pkind)), (apq, .inl (cI, 6, .inl pwsq)), (apr, .inl (cI, 6, .inl pwhr))] := hD
                  cases hF
                  rw [hQ]
                  exact xrv hC hP hS dX1_actByDraw_183
            · have hF := op_neg c165 hF
              refine lv_iload hx hb dX1_actByDraw_132 (lv_at hl 0 rfl) ?_
              refine lv_bipush (v := (6 : Int32)) hx hb dX1_actByDraw_134 (by decide) ?_
              refine lv_icmp_gt (tgt := 161) hx hb dX1_actByDraw_136 (by decide) (fun c172 => ?_) (fun c172 => ?_)
              · have hF := op_pos c172 hF
                refine lv_iload hx hb dX1_actByDraw_161 (lv_at hl 0 rfl) ?_
                refine lv_bipush (v := (7 : Int32)) hx hb dX1_actByDraw_163 (by decide) ?_
                refine lv_icmp_ne (tgt := 183) hx hb dX1_actByDraw_165 (by decide) (fun c173 => ?_) (fun c173 => ?_)
                · have hF := op_neg c173 hF
                  cases hF
                  rw [hQ]
                  exact xrv hC hP hS dX1_actByDraw_183
                · have hF := op_pos c173 hF
                  refine lv_aload_n hx hb dX1_actByDraw_168 rfl (lv_at hl 5 rfl) ?_
                  refine lv_iload hx hb dX1_actByDraw_169 (lv_at hl 2 rfl) ?_
                  obtain ⟨r174, hb175, hF⟩ := op_bind hF
                  refine xVr (As := [.int r3]) (rest := []) hC hP hD hS [0, 1, 2, 3, 4, 5, 6, 7, 8] (c_X1_isInStand l D cI cC cM aq aqh aqw aqs aqu ap apk apq apr qgone qmet qstill qdone qhour qworn qsquare qunder psq ppa ppe pwo pkind pwsq pwhr r3 r174 hb175) (cwV 1 hts gX1_actByDraw_X1_isInStand rfl rfl rfl ⟨rfl, pd_X1_isInStand⟩ ⟨Nat.le_of_ble_eq_true rfl, Nat.le_of_ble_eq_true rfl⟩) rfl rfl 0 1 rfl rfl rfl rfl hl.1 rfl (Nat.le_of_ble_eq_true rfl) dX1_actByDraw_171 ⟨Nat.zero_le _, Nat.zero_le _⟩ (fun H locs hP hS => ?_)
                  refine lv_if_eq (tgt := 183) hx hb dX1_actByDraw_174 (by decide) (fun c176 => ?_) (fun c176 => ?_)
                  · have hF := op_pos c176 hF
                    cases hF
                    rw [hQ]
                    exact xrv hC hP hS dX1_actByDraw_183
                  · have hF := op_neg c176 hF
                    refine lv_aload_n hx hb dX1_actByDraw_177 rfl (lv_at hl 5 rfl) ?_
                    refine lv_iload hx hb dX1_actByDraw_178 (lv_at hl 2 rfl) ?_
                    obtain ⟨qworn_177, hb178, hF⟩ := op_bind hF
                    refine xVv (As := [.int r3]) (rest := []) hC hP hD hS [0, 1, 2, 3, 4, 5, 6, 7, 8] (c_X1_doMend l D cI cC cM aq aqh aqw aqs aqu ap apk apq apr qgone qmet qstill qdone qhour qworn qsquare qunder psq ppa ppe pwo pkind pwsq pwhr r3 qworn_177 hb178) (cwV 1 hts gX1_actByDraw_X1_doMend rfl rfl rfl ⟨rfl, pd_X1_doMend⟩ ⟨Nat.le_of_ble_eq_true rfl, Nat.le_of_ble_eq_true rfl⟩) rfl rfl rfl 0 1 rfl rfl rfl rfl hl.1 rfl (Nat.le_of_ble_eq_true rfl) dX1_actByDraw_180 ⟨Nat.zero_le _, Nat.zero_le _⟩ (fun H locs hP hD hS => ?_)
                    have hP : va_P D vwCl [(aq, .inr (1, [.ref ap, .int qgone, .int qmet, .int qstill, .int qdone, .ref aqh, .ref aqw, .ref aqs, .ref aqu])), (aqh, .inl (cI, 6, .inl qhour)), (aqw, .inl (cI, 6, .inl qworn_177)), (aqs, .inl (cI, 5, .inl qsquare)), (aqu, .inl (cI, 5, .inl qunder)), (ap, .inr (2, [.int psq, .int ppa, .int ppe, .int pwo, .ref apk, .ref apq, .ref apr])), (apk, .inl (cI, 6, .inl pkind)), (apq, .inl (cI, 6, .inl pwsq)), (apr, .inl (cI, 6, .inl pwhr))] H := hP
                    have hD : va_D A [(aq, .inr (1, [.ref ap, .int qgone, .int qmet, .int qstill, .int qdone, .ref aqh, .ref aqw, .ref aqs, .ref aqu])), (aqh, .inl (cI, 6, .inl qhour)), (aqw, .inl (cI, 6, .inl qworn_177)), (aqs, .inl (cI, 5, .inl qsquare)), (aqu, .inl (cI, 5, .inl qunder)), (ap, .inr (2, [.int psq, .int ppa, .int ppe, .int pwo, .ref apk, .ref apq, .ref apr])), (apk, .inl (cI, 6, .inl pkind)), (apq, .inl (cI, 6, .inl pwsq)), (apr, .inl (cI, 6, .inl pwhr))] := hD
                    cases hF
                    rw [hQ]
                    exact xrv hC hP hS dX1_actByDraw_183
              · have hF := op_neg c172 hF
                refine lv_aload_n hx hb dX1_actByDraw_139 rfl (lv_at hl 5 rfl) ?_
                refine lv_iload_n hx hb dX1_actByDraw_140 rfl (lv_at hl 4 rfl) ?_
                refine lv_iload_n hx hb dX1_actByDraw_141 rfl (lv_at hl 3 rfl) ?_
                refine lv_iconst (v := (2 : Int32)) hx hb dX1_actByDraw_142 (by decide) ?_
                refine lv_irem hx hb dX1_actByDraw_143 (by decide) ?_
                obtain ⟨r179, hb180, hF⟩ := op_bind hF
                refine xVr (As := [.int r1, .int (jrem (d0 / (64 : Int32)) (2 : Int32))]) (rest := []) hC hP hD hS [0, 1, 2, 3, 4, 5, 6, 7, 8] (c_X1_canWalk l D cI cC cM aq aqh aqw aqs aqu ap apk apq apr qgone qmet qstill qdone qhour qworn qsquare qunder psq ppa ppe pwo pkind pwsq pwhr r1 (jrem (d0 / (64 : Int32)) (2 : Int32)) r179 hb180) (cwV 2 hts gX1_actByDraw_X1_canWalk rfl rfl rfl ⟨rfl, pd_X1_canWalk⟩ ⟨Nat.le_of_ble_eq_true rfl, Nat.le_of_ble_eq_true rfl⟩) rfl rfl 0 1 rfl rfl rfl rfl hl.1 rfl (Nat.le_of_ble_eq_true rfl) dX1_actByDraw_144 ⟨Nat.zero_le _, Nat.zero_le _⟩ (fun H locs hP hS => ?_)
                refine lv_if_eq (tgt := 161) hx hb dX1_actByDraw_147 (by decide) (fun c181 => ?_) (fun c181 => ?_)
                · have hF := op_pos c181 hF
                  refine lv_iload hx hb dX1_actByDraw_161 (lv_at hl 0 rfl) ?_
                  refine lv_bipush (v := (7 : Int32)) hx hb dX1_actByDraw_163 (by decide) ?_
                  refine lv_icmp_ne (tgt := 183) hx hb dX1_actByDraw_165 (by decide) (fun c182 => ?_) (fun c182 => ?_)
                  · have hF := op_neg c182 hF
                    cases hF
                    rw [hQ]
                    exact xrv hC hP hS dX1_actByDraw_183
                  · have hF := op_pos c182 hF
                    refine lv_aload_n hx hb dX1_actByDraw_168 rfl (lv_at hl 5 rfl) ?_
                    refine lv_iload hx hb dX1_actByDraw_169 (lv_at hl 2 rfl) ?_
                    obtain ⟨r183, hb184, hF⟩ := op_bind hF
                    refine xVr (As := [.int r3]) (rest := []) hC hP hD hS [0, 1, 2, 3, 4, 5, 6, 7, 8] (c_X1_isInStand l D cI cC cM aq aqh aqw aqs aqu ap apk apq apr qgone qmet qstill qdone qhour qworn qsquare qunder psq ppa ppe pwo pkind pwsq pwhr r3 r183 hb184) (cwV 1 hts gX1_actByDraw_X1_isInStand rfl rfl rfl ⟨rfl, pd_X1_isInStand⟩ ⟨Nat.le_of_ble_eq_true rfl, Nat.le_of_ble_eq_true rfl⟩) rfl rfl 0 1 rfl rfl rfl rfl hl.1 rfl (Nat.le_of_ble_eq_true rfl) dX1_actByDraw_171 ⟨Nat.zero_le _, Nat.zero_le _⟩ (fun H locs hP hS => ?_)
                    refine lv_if_eq (tgt := 183) hx hb dX1_actByDraw_174 (by decide) (fun c185 => ?_) (fun c185 => ?_)
                    · have hF := op_pos c185 hF
                      cases hF
                      rw [hQ]
                      exact xrv hC hP hS dX1_actByDraw_183
                    · have hF := op_neg c185 hF
                      refine lv_aload_n hx hb dX1_actByDraw_177 rfl (lv_at hl 5 rfl) ?_
                      refine lv_iload hx hb dX1_actByDraw_178 (lv_at hl 2 rfl) ?_
                      obtain ⟨qworn_186, hb187, hF⟩ := op_bind hF
                      refine xVv (As := [.int r3]) (rest := []) hC hP hD hS [0, 1, 2, 3, 4, 5, 6, 7, 8] (c_X1_doMend l D cI cC cM aq aqh aqw aqs aqu ap apk apq apr qgone qmet qstill qdone qhour qworn qsquare qunder psq ppa ppe pwo pkind pwsq pwhr r3 qworn_186 hb187) (cwV 1 hts gX1_actByDraw_X1_doMend rfl rfl rfl ⟨rfl, pd_X1_doMend⟩ ⟨Nat.le_of_ble_eq_true rfl, Nat.le_of_ble_eq_true rfl⟩) rfl rfl rfl 0 1 rfl rfl rfl rfl hl.1 rfl (Nat.le_of_ble_eq_true rfl) dX1_actByDraw_180 ⟨Nat.zero_le _, Nat.zero_le _⟩ (fun H locs hP hD hS => ?_)
                      have hP : va_P D vwCl [(aq, .inr (1, [.ref ap, .int qgone, .int qmet, .int qstill, .int qdone, .ref aqh, .ref aqw, .ref aqs, .ref aqu])), (aqh, .inl (cI, 6, .inl qhour)), (aqw, .inl (cI, 6, .inl qworn_186)), (aqs, .inl (cI, 5, .inl qsquare)), (aqu, .inl (cI, 5, .inl qunder)), (ap, .inr (2, [.int psq, .int ppa, .int ppe, .int pwo, .ref apk, .ref apq, .ref apr])), (apk, .inl (cI, 6, .inl pkind)), (apq, .inl (cI, 6, .inl pwsq)), (apr, .inl (cI, 6, .inl pwhr))] H := hP
                      have hD : va_D A [(aq, .inr (1, [.ref ap, .int qgone, .int qmet, .int qstill, .int qdone, .ref aqh, .ref aqw, .ref aqs, .ref aqu])), (aqh, .inl (cI, 6, .inl qhour)), (aqw, .inl (cI, 6, .inl qworn_186)), (aqs, .inl (cI, 5, .inl qsquare)), (aqu, .inl (cI, 5, .inl qunder)), (ap, .inr (2, [.int psq, .int ppa, .int ppe, .int pwo, .ref apk, .ref apq, .ref apr])), (apk, .inl (cI, 6, .inl pkind)), (apq, .inl (cI, 6, .inl pwsq)), (apr, .inl (cI, 6, .inl pwhr))] := hD
                      cases hF
                      rw [hQ]
                      exact xrv hC hP hS dX1_actByDraw_183
                · have hF := op_neg c181 hF
                  refine lv_aload_n hx hb dX1_actByDraw_150 rfl (lv_at hl 5 rfl) ?_
                  refine lv_iload_n hx hb dX1_actByDraw_151 rfl (lv_at hl 4 rfl) ?_
                  refine lv_iload_n hx hb dX1_actByDraw_152 rfl (lv_at hl 3 rfl) ?_
                  refine lv_iconst (v := (2 : Int32)) hx hb dX1_actByDraw_153 (by decide) ?_
                  refine lv_irem hx hb dX1_actByDraw_154 (by decide) ?_
                  obtain ⟨⟨qstill_188, qsquare_189⟩, hb190, hF⟩ := op_bind hF
                  refine xVv (As := [.int r1, .int (jrem (d0 / (64 : Int32)) (2 : Int32))]) (rest := []) hC hP hD hS [0, 1, 2, 3, 4, 5, 6, 7, 8] (c_X1_doWalk l D cI cC cM aq aqh aqw aqs aqu ap apk apq apr qgone qmet qstill qdone qhour qworn qsquare qunder psq ppa ppe pwo pkind pwsq pwhr r1 (jrem (d0 / (64 : Int32)) (2 : Int32)) qstill_188 qsquare_189 hb190) (cwV 2 hts gX1_actByDraw_X1_doWalk rfl rfl rfl ⟨rfl, pd_X1_doWalk⟩ ⟨Nat.le_of_ble_eq_true rfl, Nat.le_of_ble_eq_true rfl⟩) rfl rfl rfl 0 1 rfl rfl rfl rfl hl.1 rfl (Nat.le_of_ble_eq_true rfl) dX1_actByDraw_155 ⟨Nat.zero_le _, Nat.zero_le _⟩ (fun H locs hP hD hS => ?_)
                  have hP : va_P D vwCl [(aq, .inr (1, [.ref ap, .int qgone, .int qmet, .int qstill_188, .int qdone, .ref aqh, .ref aqw, .ref aqs, .ref aqu])), (aqh, .inl (cI, 6, .inl qhour)), (aqw, .inl (cI, 6, .inl qworn)), (aqs, .inl (cI, 5, .inl qsquare_189)), (aqu, .inl (cI, 5, .inl qunder)), (ap, .inr (2, [.int psq, .int ppa, .int ppe, .int pwo, .ref apk, .ref apq, .ref apr])), (apk, .inl (cI, 6, .inl pkind)), (apq, .inl (cI, 6, .inl pwsq)), (apr, .inl (cI, 6, .inl pwhr))] H := hP
                  have hD : va_D A [(aq, .inr (1, [.ref ap, .int qgone, .int qmet, .int qstill_188, .int qdone, .ref aqh, .ref aqw, .ref aqs, .ref aqu])), (aqh, .inl (cI, 6, .inl qhour)), (aqw, .inl (cI, 6, .inl qworn)), (aqs, .inl (cI, 5, .inl qsquare_189)), (aqu, .inl (cI, 5, .inl qunder)), (ap, .inr (2, [.int psq, .int ppa, .int ppe, .int pwo, .ref apk, .ref apq, .ref apr])), (apk, .inl (cI, 6, .inl pkind)), (apq, .inl (cI, 6, .inl pwsq)), (apr, .inl (cI, 6, .inl pwhr))] := hD
                  refine lv_goto (tgt := 183) hx hb dX1_actByDraw_158 (by decide) ?_
                  cases hF
                  rw [hQ]
                  exact xrv hC hP hS dX1_actByDraw_183
          · have hF := op_neg c164 hF
            refine lv_aload_n hx hb dX1_actByDraw_118 rfl (lv_at hl 5 rfl) ?_
            refine lv_iload_n hx hb dX1_actByDraw_119 rfl (lv_at hl 4 rfl) ?_
            obtain ⟨qunder_191, hb192, hF⟩ := op_bind hF
            refine xVv (As := [.int r1]) (rest := []) hC hP hD hS [0, 1, 2, 3, 4, 5, 6, 7, 8] (c_X1_doGive l D cI cC cM aq aqh aqw aqs aqu ap apk apq apr qgone qmet qstill qdone qhour qworn qsquare qunder psq ppa ppe pwo pkind pwsq pwhr r1 qunder_191 hb192) (cwV 1 hts gX1_actByDraw_X1_doGive rfl rfl rfl ⟨rfl, pd_X1_doGive⟩ ⟨Nat.le_of_ble_eq_true rfl, Nat.le_of_ble_eq_true rfl⟩) rfl rfl rfl 0 1 rfl rfl rfl rfl hl.1 rfl (Nat.le_of_ble_eq_true rfl) dX1_actByDraw_120 ⟨Nat.zero_le _, Nat.zero_le _⟩ (fun H locs hP hD hS => ?_)
            have hP : va_P D vwCl [(aq, .inr (1, [.ref ap, .int qgone, .int qmet, .int qstill, .int qdone, .ref aqh, .ref aqw, .ref aqs, .ref aqu])), (aqh, .inl (cI, 6, .inl qhour)), (aqw, .inl (cI, 6, .inl qworn)), (aqs, .inl (cI, 5, .inl qsquare)), (aqu, .inl (cI, 5, .inl qunder_191)), (ap, .inr (2, [.int psq, .int ppa, .int ppe, .int pwo, .ref apk, .ref apq, .ref apr])), (apk, .inl (cI, 6, .inl pkind)), (apq, .inl (cI, 6, .inl pwsq)), (apr, .inl (cI, 6, .inl pwhr))] H := hP
            have hD : va_D A [(aq, .inr (1, [.ref ap, .int qgone, .int qmet, .int qstill, .int qdone, .ref aqh, .ref aqw, .ref aqs, .ref aqu])), (aqh, .inl (cI, 6, .inl qhour)), (aqw, .inl (cI, 6, .inl qworn)), (aqs, .inl (cI, 5, .inl qsquare)), (aqu, .inl (cI, 5, .inl qunder_191)), (ap, .inr (2, [.int psq, .int ppa, .int ppe, .int pwo, .ref apk, .ref apq, .ref apr])), (apk, .inl (cI, 6, .inl pkind)), (apq, .inl (cI, 6, .inl pwsq)), (apr, .inl (cI, 6, .inl pwhr))] := hD
            refine lv_goto (tgt := 183) hx hb dX1_actByDraw_123 (by decide) ?_
            cases hF
            rw [hQ]
            exact xrv hC hP hS dX1_actByDraw_183
      · have hF := op_pos c134 hF
        refine lv_aload_n hx hb dX1_actByDraw_84 rfl (lv_at hl 5 rfl) ?_
        refine lv_iload_n hx hb dX1_actByDraw_85 rfl (lv_at hl 4 rfl) ?_
        refine lv_iload hx hb dX1_actByDraw_86 (lv_at hl 1 rfl) ?_
        obtain ⟨r193, hb194, hF⟩ := op_bind hF
        refine xVr (As := [.int r1, .int r5]) (rest := []) hC hP hD hS [0, 1, 2, 3, 4, 5, 6, 7, 8] (c_X1_canShare l D cI cC cM aq aqh aqw aqs aqu ap apk apq apr qgone qmet qstill qdone qhour qworn qsquare qunder psq ppa ppe pwo pkind pwsq pwhr r1 r5 r193 hb194) (cwV 2 hts gX1_actByDraw_X1_canShare rfl rfl rfl ⟨rfl, pd_X1_canShare⟩ ⟨Nat.le_of_ble_eq_true rfl, Nat.le_of_ble_eq_true rfl⟩) rfl rfl 0 1 rfl rfl rfl rfl hl.1 rfl (Nat.le_of_ble_eq_true rfl) dX1_actByDraw_88 ⟨Nat.zero_le _, Nat.zero_le _⟩ (fun H locs hP hS => ?_)
        refine lv_if_eq (tgt := 104) hx hb dX1_actByDraw_91 (by decide) (fun c195 => ?_) (fun c195 => ?_)
        · have hF := op_pos c195 hF
          refine lv_iload hx hb dX1_actByDraw_104 (lv_at hl 0 rfl) ?_
          refine lv_iconst (v := (3 : Int32)) hx hb dX1_actByDraw_106 (by decide) ?_
          refine lv_icmp_ne (tgt := 126) hx hb dX1_actByDraw_107 (by decide) (fun c196 => ?_) (fun c196 => ?_)
          · have hF := op_neg c196 hF
            refine lv_iload hx hb dX1_actByDraw_126 (lv_at hl 0 rfl) ?_
            refine lv_iconst (v := (4 : Int32)) hx hb dX1_actByDraw_128 (by decide) ?_
            refine lv_icmp_lt (tgt := 161) hx hb dX1_actByDraw_129 (by decide) (fun c197 => ?_) (fun c197 => ?_)
            · have hF := op_pos c197 hF
              refine lv_iload hx hb dX1_actByDraw_161 (lv_at hl 0 rfl) ?_
              refine lv_bipush (v := (7 : Int32)) hx hb dX1_actByDraw_163 (by decide) ?_
              refine lv_icmp_ne (tgt := 183) hx hb dX1_actByDraw_165 (by decide) (fun c198 => ?_) (fun c198 => ?_)
              · have hF := op_neg c198 hF
                cases hF
                rw [hQ]
                exact xrv hC hP hS dX1_actByDraw_183
              · have hF := op_pos c198 hF
                refine lv_aload_n hx hb dX1_actByDraw_168 rfl (lv_at hl 5 rfl) ?_
                refine lv_iload hx hb dX1_actByDraw_169 (lv_at hl 2 rfl) ?_
                obtain ⟨r199, hb200, hF⟩ := op_bind hF
                refine xVr (As := [.int r3]) (rest := []) hC hP hD hS [0, 1, 2, 3, 4, 5, 6, 7, 8] (c_X1_isInStand l D cI cC cM aq aqh aqw aqs aqu ap apk apq apr qgone qmet qstill qdone qhour qworn qsquare qunder psq ppa ppe pwo pkind pwsq pwhr r3 r199 hb200) (cwV 1 hts gX1_actByDraw_X1_isInStand rfl rfl rfl ⟨rfl, pd_X1_isInStand⟩ ⟨Nat.le_of_ble_eq_true rfl, Nat.le_of_ble_eq_true rfl⟩) rfl rfl 0 1 rfl rfl rfl rfl hl.1 rfl (Nat.le_of_ble_eq_true rfl) dX1_actByDraw_171 ⟨Nat.zero_le _, Nat.zero_le _⟩ (fun H locs hP hS => ?_)
                refine lv_if_eq (tgt := 183) hx hb dX1_actByDraw_174 (by decide) (fun c201 => ?_) (fun c201 => ?_)
                · have hF := op_pos c201 hF
                  cases hF
                  rw [hQ]
                  exact xrv hC hP hS dX1_actByDraw_183
                · have hF := op_neg c201 hF
                  refine lv_aload_n hx hb dX1_actByDraw_177 rfl (lv_at hl 5 rfl) ?_
                  refine lv_iload hx hb dX1_actByDraw_178 (lv_at hl 2 rfl) ?_
                  obtain ⟨qworn_202, hb203, hF⟩ := op_bind hF
                  refine xVv (As := [.int r3]) (rest := []) hC hP hD hS [0, 1, 2, 3, 4, 5, 6, 7, 8] (c_X1_doMend l D cI cC cM aq aqh aqw aqs aqu ap apk apq apr qgone qmet qstill qdone qhour qworn qsquare qunder psq ppa ppe pwo pkind pwsq pwhr r3 qworn_202 hb203) (cwV 1 hts gX1_actByDraw_X1_doMend rfl rfl rfl ⟨rfl, pd_X1_doMend⟩ ⟨Nat.le_of_ble_eq_true rfl, Nat.le_of_ble_eq_true rfl⟩) rfl rfl rfl 0 1 rfl rfl rfl rfl hl.1 rfl (Nat.le_of_ble_eq_true rfl) dX1_actByDraw_180 ⟨Nat.zero_le _, Nat.zero_le _⟩ (fun H locs hP hD hS => ?_)
                  have hP : va_P D vwCl [(aq, .inr (1, [.ref ap, .int qgone, .int qmet, .int qstill, .int qdone, .ref aqh, .ref aqw, .ref aqs, .ref aqu])), (aqh, .inl (cI, 6, .inl qhour)), (aqw, .inl (cI, 6, .inl qworn_202)), (aqs, .inl (cI, 5, .inl qsquare)), (aqu, .inl (cI, 5, .inl qunder)), (ap, .inr (2, [.int psq, .int ppa, .int ppe, .int pwo, .ref apk, .ref apq, .ref apr])), (apk, .inl (cI, 6, .inl pkind)), (apq, .inl (cI, 6, .inl pwsq)), (apr, .inl (cI, 6, .inl pwhr))] H := hP
                  have hD : va_D A [(aq, .inr (1, [.ref ap, .int qgone, .int qmet, .int qstill, .int qdone, .ref aqh, .ref aqw, .ref aqs, .ref aqu])), (aqh, .inl (cI, 6, .inl qhour)), (aqw, .inl (cI, 6, .inl qworn_202)), (aqs, .inl (cI, 5, .inl qsquare)), (aqu, .inl (cI, 5, .inl qunder)), (ap, .inr (2, [.int psq, .int ppa, .int ppe, .int pwo, .ref apk, .ref apq, .ref apr])), (apk, .inl (cI, 6, .inl pkind)), (apq, .inl (cI, 6, .inl pwsq)), (apr, .inl (cI, 6, .inl pwhr))] := hD
                  cases hF
                  rw [hQ]
                  exact xrv hC hP hS dX1_actByDraw_183
            · have hF := op_neg c197 hF
              refine lv_iload hx hb dX1_actByDraw_132 (lv_at hl 0 rfl) ?_
              refine lv_bipush (v := (6 : Int32)) hx hb dX1_actByDraw_134 (by decide) ?_
              refine lv_icmp_gt (tgt := 161) hx hb dX1_actByDraw_136 (by decide) (fun c204 => ?_) (fun c204 => ?_)
              · have hF := op_pos c204 hF
                refine lv_iload hx hb dX1_actByDraw_161 (lv_at hl 0 rfl) ?_
                refine lv_bipush (v := (7 : Int32)) hx hb dX1_actByDraw_163 (by decide) ?_
                refine lv_icmp_ne (tgt := 183) hx hb dX1_actByDraw_165 (by decide) (fun c205 => ?_) (fun c205 => ?_)
                · have hF := op_neg c205 hF
                  cases hF
                  rw [hQ]
                  exact xrv hC hP hS dX1_actByDraw_183
                · have hF := op_pos c205 hF
                  refine lv_aload_n hx hb dX1_actByDraw_168 rfl (lv_at hl 5 rfl) ?_
                  refine lv_iload hx hb dX1_actByDraw_169 (lv_at hl 2 rfl) ?_
                  obtain ⟨r206, hb207, hF⟩ := op_bind hF
                  refine xVr (As := [.int r3]) (rest := []) hC hP hD hS [0, 1, 2, 3, 4, 5, 6, 7, 8] (c_X1_isInStand l D cI cC cM aq aqh aqw aqs aqu ap apk apq apr qgone qmet qstill qdone qhour qworn qsquare qunder psq ppa ppe pwo pkind pwsq pwhr r3 r206 hb207) (cwV 1 hts gX1_actByDraw_X1_isInStand rfl rfl rfl ⟨rfl, pd_X1_isInStand⟩ ⟨Nat.le_of_ble_eq_true rfl, Nat.le_of_ble_eq_true rfl⟩) rfl rfl 0 1 rfl rfl rfl rfl hl.1 rfl (Nat.le_of_ble_eq_true rfl) dX1_actByDraw_171 ⟨Nat.zero_le _, Nat.zero_le _⟩ (fun H locs hP hS => ?_)
                  refine lv_if_eq (tgt := 183) hx hb dX1_actByDraw_174 (by decide) (fun c208 => ?_) (fun c208 => ?_)
                  · have hF := op_pos c208 hF
                    cases hF
                    rw [hQ]
                    exact xrv hC hP hS dX1_actByDraw_183
                  · have hF := op_neg c208 hF
                    refine lv_aload_n hx hb dX1_actByDraw_177 rfl (lv_at hl 5 rfl) ?_
                    refine lv_iload hx hb dX1_actByDraw_178 (lv_at hl 2 rfl) ?_
                    obtain ⟨qworn_209, hb210, hF⟩ := op_bind hF
                    refine xVv (As := [.int r3]) (rest := []) hC hP hD hS [0, 1, 2, 3, 4, 5, 6, 7, 8] (c_X1_doMend l D cI cC cM aq aqh aqw aqs aqu ap apk apq apr qgone qmet qstill qdone qhour qworn qsquare qunder psq ppa ppe pwo pkind pwsq pwhr r3 qworn_209 hb210) (cwV 1 hts gX1_actByDraw_X1_doMend rfl rfl rfl ⟨rfl, pd_X1_doMend⟩ ⟨Nat.le_of_ble_eq_true rfl, Nat.le_of_ble_eq_true rfl⟩) rfl rfl rfl 0 1 rfl rfl rfl rfl hl.1 rfl (Nat.le_of_ble_eq_true rfl) dX1_actByDraw_180 ⟨Nat.zero_le _, Nat.zero_le _⟩ (fun H locs hP hD hS => ?_)
                    have hP : va_P D vwCl [(aq, .inr (1, [.ref ap, .int qgone, .int qmet, .int qstill, .int qdone, .ref aqh, .ref aqw, .ref aqs, .ref aqu])), (aqh, .inl (cI, 6, .inl qhour)), (aqw, .inl (cI, 6, .inl qworn_209)), (aqs, .inl (cI, 5, .inl qsquare)), (aqu, .inl (cI, 5, .inl qunder)), (ap, .inr (2, [.int psq, .int ppa, .int ppe, .int pwo, .ref apk, .ref apq, .ref apr])), (apk, .inl (cI, 6, .inl pkind)), (apq, .inl (cI, 6, .inl pwsq)), (apr, .inl (cI, 6, .inl pwhr))] H := hP
                    have hD : va_D A [(aq, .inr (1, [.ref ap, .int qgone, .int qmet, .int qstill, .int qdone, .ref aqh, .ref aqw, .ref aqs, .ref aqu])), (aqh, .inl (cI, 6, .inl qhour)), (aqw, .inl (cI, 6, .inl qworn_209)), (aqs, .inl (cI, 5, .inl qsquare)), (aqu, .inl (cI, 5, .inl qunder)), (ap, .inr (2, [.int psq, .int ppa, .int ppe, .int pwo, .ref apk, .ref apq, .ref apr])), (apk, .inl (cI, 6, .inl pkind)), (apq, .inl (cI, 6, .inl pwsq)), (apr, .inl (cI, 6, .inl pwhr))] := hD
                    cases hF
                    rw [hQ]
                    exact xrv hC hP hS dX1_actByDraw_183
              · have hF := op_neg c204 hF
                refine lv_aload_n hx hb dX1_actByDraw_139 rfl (lv_at hl 5 rfl) ?_
                refine lv_iload_n hx hb dX1_actByDraw_140 rfl (lv_at hl 4 rfl) ?_
                refine lv_iload_n hx hb dX1_actByDraw_141 rfl (lv_at hl 3 rfl) ?_
                refine lv_iconst (v := (2 : Int32)) hx hb dX1_actByDraw_142 (by decide) ?_
                refine lv_irem hx hb dX1_actByDraw_143 (by decide) ?_
                obtain ⟨r211, hb212, hF⟩ := op_bind hF
                refine xVr (As := [.int r1, .int (jrem (d0 / (64 : Int32)) (2 : Int32))]) (rest := []) hC hP hD hS [0, 1, 2, 3, 4, 5, 6, 7, 8] (c_X1_canWalk l D cI cC cM aq aqh aqw aqs aqu ap apk apq apr qgone qmet qstill qdone qhour qworn qsquare qunder psq ppa ppe pwo pkind pwsq pwhr r1 (jrem (d0 / (64 : Int32)) (2 : Int32)) r211 hb212) (cwV 2 hts gX1_actByDraw_X1_canWalk rfl rfl rfl ⟨rfl, pd_X1_canWalk⟩ ⟨Nat.le_of_ble_eq_true rfl, Nat.le_of_ble_eq_true rfl⟩) rfl rfl 0 1 rfl rfl rfl rfl hl.1 rfl (Nat.le_of_ble_eq_true rfl) dX1_actByDraw_144 ⟨Nat.zero_le _, Nat.zero_le _⟩ (fun H locs hP hS => ?_)
                refine lv_if_eq (tgt := 161) hx hb dX1_actByDraw_147 (by decide) (fun c213 => ?_) (fun c213 => ?_)
                · have hF := op_pos c213 hF
                  refine lv_iload hx hb dX1_actByDraw_161 (lv_at hl 0 rfl) ?_
                  refine lv_bipush (v := (7 : Int32)) hx hb dX1_actByDraw_163 (by decide) ?_
                  refine lv_icmp_ne (tgt := 183) hx hb dX1_actByDraw_165 (by decide) (fun c214 => ?_) (fun c214 => ?_)
                  · have hF := op_neg c214 hF
                    cases hF
                    rw [hQ]
                    exact xrv hC hP hS dX1_actByDraw_183
                  · have hF := op_pos c214 hF
                    refine lv_aload_n hx hb dX1_actByDraw_168 rfl (lv_at hl 5 rfl) ?_
                    refine lv_iload hx hb dX1_actByDraw_169 (lv_at hl 2 rfl) ?_
                    obtain ⟨r215, hb216, hF⟩ := op_bind hF
                    refine xVr (As := [.int r3]) (rest := []) hC hP hD hS [0, 1, 2, 3, 4, 5, 6, 7, 8] (c_X1_isInStand l D cI cC cM aq aqh aqw aqs aqu ap apk apq apr qgone qmet qstill qdone qhour qworn qsquare qunder psq ppa ppe pwo pkind pwsq pwhr r3 r215 hb216) (cwV 1 hts gX1_actByDraw_X1_isInStand rfl rfl rfl ⟨rfl, pd_X1_isInStand⟩ ⟨Nat.le_of_ble_eq_true rfl, Nat.le_of_ble_eq_true rfl⟩) rfl rfl 0 1 rfl rfl rfl rfl hl.1 rfl (Nat.le_of_ble_eq_true rfl) dX1_actByDraw_171 ⟨Nat.zero_le _, Nat.zero_le _⟩ (fun H locs hP hS => ?_)
                    refine lv_if_eq (tgt := 183) hx hb dX1_actByDraw_174 (by decide) (fun c217 => ?_) (fun c217 => ?_)
                    · have hF := op_pos c217 hF
                      cases hF
                      rw [hQ]
                      exact xrv hC hP hS dX1_actByDraw_183
                    · have hF := op_neg c217 hF
                      refine lv_aload_n hx hb dX1_actByDraw_177 rfl (lv_at hl 5 rfl) ?_
                      refine lv_iload hx hb dX1_actByDraw_178 (lv_at hl 2 rfl) ?_
                      obtain ⟨qworn_218, hb219, hF⟩ := op_bind hF
                      refine xVv (As := [.int r3]) (rest := []) hC hP hD hS [0, 1, 2, 3, 4, 5, 6, 7, 8] (c_X1_doMend l D cI cC cM aq aqh aqw aqs aqu ap apk apq apr qgone qmet qstill qdone qhour qworn qsquare qunder psq ppa ppe pwo pkind pwsq pwhr r3 qworn_218 hb219) (cwV 1 hts gX1_actByDraw_X1_doMend rfl rfl rfl ⟨rfl, pd_X1_doMend⟩ ⟨Nat.le_of_ble_eq_true rfl, Nat.le_of_ble_eq_true rfl⟩) rfl rfl rfl 0 1 rfl rfl rfl rfl hl.1 rfl (Nat.le_of_ble_eq_true rfl) dX1_actByDraw_180 ⟨Nat.zero_le _, Nat.zero_le _⟩ (fun H locs hP hD hS => ?_)
                      have hP : va_P D vwCl [(aq, .inr (1, [.ref ap, .int qgone, .int qmet, .int qstill, .int qdone, .ref aqh, .ref aqw, .ref aqs, .ref aqu])), (aqh, .inl (cI, 6, .inl qhour)), (aqw, .inl (cI, 6, .inl qworn_218)), (aqs, .inl (cI, 5, .inl qsquare)), (aqu, .inl (cI, 5, .inl qunder)), (ap, .inr (2, [.int psq, .int ppa, .int ppe, .int pwo, .ref apk, .ref apq, .ref apr])), (apk, .inl (cI, 6, .inl pkind)), (apq, .inl (cI, 6, .inl pwsq)), (apr, .inl (cI, 6, .inl pwhr))] H := hP
                      have hD : va_D A [(aq, .inr (1, [.ref ap, .int qgone, .int qmet, .int qstill, .int qdone, .ref aqh, .ref aqw, .ref aqs, .ref aqu])), (aqh, .inl (cI, 6, .inl qhour)), (aqw, .inl (cI, 6, .inl qworn_218)), (aqs, .inl (cI, 5, .inl qsquare)), (aqu, .inl (cI, 5, .inl qunder)), (ap, .inr (2, [.int psq, .int ppa, .int ppe, .int pwo, .ref apk, .ref apq, .ref apr])), (apk, .inl (cI, 6, .inl pkind)), (apq, .inl (cI, 6, .inl pwsq)), (apr, .inl (cI, 6, .inl pwhr))] := hD
                      cases hF
                      rw [hQ]
                      exact xrv hC hP hS dX1_actByDraw_183
                · have hF := op_neg c213 hF
                  refine lv_aload_n hx hb dX1_actByDraw_150 rfl (lv_at hl 5 rfl) ?_
                  refine lv_iload_n hx hb dX1_actByDraw_151 rfl (lv_at hl 4 rfl) ?_
                  refine lv_iload_n hx hb dX1_actByDraw_152 rfl (lv_at hl 3 rfl) ?_
                  refine lv_iconst (v := (2 : Int32)) hx hb dX1_actByDraw_153 (by decide) ?_
                  refine lv_irem hx hb dX1_actByDraw_154 (by decide) ?_
                  obtain ⟨⟨qstill_220, qsquare_221⟩, hb222, hF⟩ := op_bind hF
                  refine xVv (As := [.int r1, .int (jrem (d0 / (64 : Int32)) (2 : Int32))]) (rest := []) hC hP hD hS [0, 1, 2, 3, 4, 5, 6, 7, 8] (c_X1_doWalk l D cI cC cM aq aqh aqw aqs aqu ap apk apq apr qgone qmet qstill qdone qhour qworn qsquare qunder psq ppa ppe pwo pkind pwsq pwhr r1 (jrem (d0 / (64 : Int32)) (2 : Int32)) qstill_220 qsquare_221 hb222) (cwV 2 hts gX1_actByDraw_X1_doWalk rfl rfl rfl ⟨rfl, pd_X1_doWalk⟩ ⟨Nat.le_of_ble_eq_true rfl, Nat.le_of_ble_eq_true rfl⟩) rfl rfl rfl 0 1 rfl rfl rfl rfl hl.1 rfl (Nat.le_of_ble_eq_true rfl) dX1_actByDraw_155 ⟨Nat.zero_le _, Nat.zero_le _⟩ (fun H locs hP hD hS => ?_)
                  have hP : va_P D vwCl [(aq, .inr (1, [.ref ap, .int qgone, .int qmet, .int qstill_220, .int qdone, .ref aqh, .ref aqw, .ref aqs, .ref aqu])), (aqh, .inl (cI, 6, .inl qhour)), (aqw, .inl (cI, 6, .inl qworn)), (aqs, .inl (cI, 5, .inl qsquare_221)), (aqu, .inl (cI, 5, .inl qunder)), (ap, .inr (2, [.int psq, .int ppa, .int ppe, .int pwo, .ref apk, .ref apq, .ref apr])), (apk, .inl (cI, 6, .inl pkind)), (apq, .inl (cI, 6, .inl pwsq)), (apr, .inl (cI, 6, .inl pwhr))] H := hP
                  have hD : va_D A [(aq, .inr (1, [.ref ap, .int qgone, .int qmet, .int qstill_220, .int qdone, .ref aqh, .ref aqw, .ref aqs, .ref aqu])), (aqh, .inl (cI, 6, .inl qhour)), (aqw, .inl (cI, 6, .inl qworn)), (aqs, .inl (cI, 5, .inl qsquare_221)), (aqu, .inl (cI, 5, .inl qunder)), (ap, .inr (2, [.int psq, .int ppa, .int ppe, .int pwo, .ref apk, .ref apq, .ref apr])), (apk, .inl (cI, 6, .inl pkind)), (apq, .inl (cI, 6, .inl pwsq)), (apr, .inl (cI, 6, .inl pwhr))] := hD
                  refine lv_goto (tgt := 183) hx hb dX1_actByDraw_158 (by decide) ?_
                  cases hF
                  rw [hQ]
                  exact xrv hC hP hS dX1_actByDraw_183
          · have hF := op_pos c196 hF
            refine lv_aload_n hx hb dX1_actByDraw_110 rfl (lv_at hl 5 rfl) ?_
            refine lv_iload_n hx hb dX1_actByDraw_111 rfl (lv_at hl 4 rfl) ?_
            obtain ⟨r223, hb224, hF⟩ := op_bind hF
            refine xVr (As := [.int r1]) (rest := []) hC hP hD hS [0, 1, 2, 3, 4, 5, 6, 7, 8] (c_X1_canGive l D cI cC cM aq aqh aqw aqs aqu ap apk apq apr qgone qmet qstill qdone qhour qworn qsquare qunder psq ppa ppe pwo pkind pwsq pwhr r1 r223 hb224) (cwV 1 hts gX1_actByDraw_X1_canGive rfl rfl rfl ⟨rfl, pd_X1_canGive⟩ ⟨Nat.le_of_ble_eq_true rfl, Nat.le_of_ble_eq_true rfl⟩) rfl rfl 0 1 rfl rfl rfl rfl hl.1 rfl (Nat.le_of_ble_eq_true rfl) dX1_actByDraw_112 ⟨Nat.zero_le _, Nat.zero_le _⟩ (fun H locs hP hS => ?_)
            refine lv_if_eq (tgt := 126) hx hb dX1_actByDraw_115 (by decide) (fun c225 => ?_) (fun c225 => ?_)
            · have hF := op_pos c225 hF
              refine lv_iload hx hb dX1_actByDraw_126 (lv_at hl 0 rfl) ?_
              refine lv_iconst (v := (4 : Int32)) hx hb dX1_actByDraw_128 (by decide) ?_
              refine lv_icmp_lt (tgt := 161) hx hb dX1_actByDraw_129 (by decide) (fun c226 => ?_) (fun c226 => ?_)
              · have hF := op_pos c226 hF
                refine lv_iload hx hb dX1_actByDraw_161 (lv_at hl 0 rfl) ?_
                refine lv_bipush (v := (7 : Int32)) hx hb dX1_actByDraw_163 (by decide) ?_
                refine lv_icmp_ne (tgt := 183) hx hb dX1_actByDraw_165 (by decide) (fun c227 => ?_) (fun c227 => ?_)
                · have hF := op_neg c227 hF
                  cases hF
                  rw [hQ]
                  exact xrv hC hP hS dX1_actByDraw_183
                · have hF := op_pos c227 hF
                  refine lv_aload_n hx hb dX1_actByDraw_168 rfl (lv_at hl 5 rfl) ?_
                  refine lv_iload hx hb dX1_actByDraw_169 (lv_at hl 2 rfl) ?_
                  obtain ⟨r228, hb229, hF⟩ := op_bind hF
                  refine xVr (As := [.int r3]) (rest := []) hC hP hD hS [0, 1, 2, 3, 4, 5, 6, 7, 8] (c_X1_isInStand l D cI cC cM aq aqh aqw aqs aqu ap apk apq apr qgone qmet qstill qdone qhour qworn qsquare qunder psq ppa ppe pwo pkind pwsq pwhr r3 r228 hb229) (cwV 1 hts gX1_actByDraw_X1_isInStand rfl rfl rfl ⟨rfl, pd_X1_isInStand⟩ ⟨Nat.le_of_ble_eq_true rfl, Nat.le_of_ble_eq_true rfl⟩) rfl rfl 0 1 rfl rfl rfl rfl hl.1 rfl (Nat.le_of_ble_eq_true rfl) dX1_actByDraw_171 ⟨Nat.zero_le _, Nat.zero_le _⟩ (fun H locs hP hS => ?_)
                  refine lv_if_eq (tgt := 183) hx hb dX1_actByDraw_174 (by decide) (fun c230 => ?_) (fun c230 => ?_)
                  · have hF := op_pos c230 hF
                    cases hF
                    rw [hQ]
                    exact xrv hC hP hS dX1_actByDraw_183
                  · have hF := op_neg c230 hF
                    refine lv_aload_n hx hb dX1_actByDraw_177 rfl (lv_at hl 5 rfl) ?_
                    refine lv_iload hx hb dX1_actByDraw_178 (lv_at hl 2 rfl) ?_
                    obtain ⟨qworn_231, hb232, hF⟩ := op_bind hF
                    refine xVv (As := [.int r3]) (rest := []) hC hP hD hS [0, 1, 2, 3, 4, 5, 6, 7, 8] (c_X1_doMend l D cI cC cM aq aqh aqw aqs aqu ap apk apq apr qgone qmet qstill qdone qhour qworn qsquare qunder psq ppa ppe pwo pkind pwsq pwhr r3 qworn_231 hb232) (cwV 1 hts gX1_actByDraw_X1_doMend rfl rfl rfl ⟨rfl, pd_X1_doMend⟩ ⟨Nat.le_of_ble_eq_true rfl, Nat.le_of_ble_eq_true rfl⟩) rfl rfl rfl 0 1 rfl rfl rfl rfl hl.1 rfl (Nat.le_of_ble_eq_true rfl) dX1_actByDraw_180 ⟨Nat.zero_le _, Nat.zero_le _⟩ (fun H locs hP hD hS => ?_)
                    have hP : va_P D vwCl [(aq, .inr (1, [.ref ap, .int qgone, .int qmet, .int qstill, .int qdone, .ref aqh, .ref aqw, .ref aqs, .ref aqu])), (aqh, .inl (cI, 6, .inl qhour)), (aqw, .inl (cI, 6, .inl qworn_231)), (aqs, .inl (cI, 5, .inl qsquare)), (aqu, .inl (cI, 5, .inl qunder)), (ap, .inr (2, [.int psq, .int ppa, .int ppe, .int pwo, .ref apk, .ref apq, .ref apr])), (apk, .inl (cI, 6, .inl pkind)), (apq, .inl (cI, 6, .inl pwsq)), (apr, .inl (cI, 6, .inl pwhr))] H := hP
                    have hD : va_D A [(aq, .inr (1, [.ref ap, .int qgone, .int qmet, .int qstill, .int qdone, .ref aqh, .ref aqw, .ref aqs, .ref aqu])), (aqh, .inl (cI, 6, .inl qhour)), (aqw, .inl (cI, 6, .inl qworn_231)), (aqs, .inl (cI, 5, .inl qsquare)), (aqu, .inl (cI, 5, .inl qunder)), (ap, .inr (2, [.int psq, .int ppa, .int ppe, .int pwo, .ref apk, .ref apq, .ref apr])), (apk, .inl (cI, 6, .inl pkind)), (apq, .inl (cI, 6, .inl pwsq)), (apr, .inl (cI, 6, .inl pwhr))] := hD
                    cases hF
                    rw [hQ]
                    exact xrv hC hP hS dX1_actByDraw_183
              · have hF := op_neg c226 hF
                refine lv_iload hx hb dX1_actByDraw_132 (lv_at hl 0 rfl) ?_
                refine lv_bipush (v := (6 : Int32)) hx hb dX1_actByDraw_134 (by decide) ?_
                refine lv_icmp_gt (tgt := 161) hx hb dX1_actByDraw_136 (by decide) (fun c233 => ?_) (fun c233 => ?_)
                · have hF := op_pos c233 hF
                  refine lv_iload hx hb dX1_actByDraw_161 (lv_at hl 0 rfl) ?_
                  refine lv_bipush (v := (7 : Int32)) hx hb dX1_actByDraw_163 (by decide) ?_
                  refine lv_icmp_ne (tgt := 183) hx hb dX1_actByDraw_165 (by decide) (fun c234 => ?_) (fun c234 => ?_)
                  · have hF := op_neg c234 hF
                    cases hF
                    rw [hQ]
                    exact xrv hC hP hS dX1_actByDraw_183
                  · have hF := op_pos c234 hF
                    refine lv_aload_n hx hb dX1_actByDraw_168 rfl (lv_at hl 5 rfl) ?_
                    refine lv_iload hx hb dX1_actByDraw_169 (lv_at hl 2 rfl) ?_
                    obtain ⟨r235, hb236, hF⟩ := op_bind hF
                    refine xVr (As := [.int r3]) (rest := []) hC hP hD hS [0, 1, 2, 3, 4, 5, 6, 7, 8] (c_X1_isInStand l D cI cC cM aq aqh aqw aqs aqu ap apk apq apr qgone qmet qstill qdone qhour qworn qsquare qunder psq ppa ppe pwo pkind pwsq pwhr r3 r235 hb236) (cwV 1 hts gX1_actByDraw_X1_isInStand rfl rfl rfl ⟨rfl, pd_X1_isInStand⟩ ⟨Nat.le_of_ble_eq_true rfl, Nat.le_of_ble_eq_true rfl⟩) rfl rfl 0 1 rfl rfl rfl rfl hl.1 rfl (Nat.le_of_ble_eq_true rfl) dX1_actByDraw_171 ⟨Nat.zero_le _, Nat.zero_le _⟩ (fun H locs hP hS => ?_)
                    refine lv_if_eq (tgt := 183) hx hb dX1_actByDraw_174 (by decide) (fun c237 => ?_) (fun c237 => ?_)
                    · have hF := op_pos c237 hF
                      cases hF
                      rw [hQ]
                      exact xrv hC hP hS dX1_actByDraw_183
                    · have hF := op_neg c237 hF
                      refine lv_aload_n hx hb dX1_actByDraw_177 rfl (lv_at hl 5 rfl) ?_
                      refine lv_iload hx hb dX1_actByDraw_178 (lv_at hl 2 rfl) ?_
                      obtain ⟨qworn_238, hb239, hF⟩ := op_bind hF
                      refine xVv (As := [.int r3]) (rest := []) hC hP hD hS [0, 1, 2, 3, 4, 5, 6, 7, 8] (c_X1_doMend l D cI cC cM aq aqh aqw aqs aqu ap apk apq apr qgone qmet qstill qdone qhour qworn qsquare qunder psq ppa ppe pwo pkind pwsq pwhr r3 qworn_238 hb239) (cwV 1 hts gX1_actByDraw_X1_doMend rfl rfl rfl ⟨rfl, pd_X1_doMend⟩ ⟨Nat.le_of_ble_eq_true rfl, Nat.le_of_ble_eq_true rfl⟩) rfl rfl rfl 0 1 rfl rfl rfl rfl hl.1 rfl (Nat.le_of_ble_eq_true rfl) dX1_actByDraw_180 ⟨Nat.zero_le _, Nat.zero_le _⟩ (fun H locs hP hD hS => ?_)
                      have hP : va_P D vwCl [(aq, .inr (1, [.ref ap, .int qgone, .int qmet, .int qstill, .int qdone, .ref aqh, .ref aqw, .ref aqs, .ref aqu])), (aqh, .inl (cI, 6, .inl qhour)), (aqw, .inl (cI, 6, .inl qworn_238)), (aqs, .inl (cI, 5, .inl qsquare)), (aqu, .inl (cI, 5, .inl qunder)), (ap, .inr (2, [.int psq, .int ppa, .int ppe, .int pwo, .ref apk, .ref apq, .ref apr])), (apk, .inl (cI, 6, .inl pkind)), (apq, .inl (cI, 6, .inl pwsq)), (apr, .inl (cI, 6, .inl pwhr))] H := hP
                      have hD : va_D A [(aq, .inr (1, [.ref ap, .int qgone, .int qmet, .int qstill, .int qdone, .ref aqh, .ref aqw, .ref aqs, .ref aqu])), (aqh, .inl (cI, 6, .inl qhour)), (aqw, .inl (cI, 6, .inl qworn_238)), (aqs, .inl (cI, 5, .inl qsquare)), (aqu, .inl (cI, 5, .inl qunder)), (ap, .inr (2, [.int psq, .int ppa, .int ppe, .int pwo, .ref apk, .ref apq, .ref apr])), (apk, .inl (cI, 6, .inl pkind)), (apq, .inl (cI, 6, .inl pwsq)), (apr, .inl (cI, 6, .inl pwhr))] := hD
                      cases hF
                      rw [hQ]
                      exact xrv hC hP hS dX1_actByDraw_183
                · have hF := op_neg c233 hF
                  refine lv_aload_n hx hb dX1_actByDraw_139 rfl (lv_at hl 5 rfl) ?_
                  refine lv_iload_n hx hb dX1_actByDraw_140 rfl (lv_at hl 4 rfl) ?_
                  refine lv_iload_n hx hb dX1_actByDraw_141 rfl (lv_at hl 3 rfl) ?_
                  refine lv_iconst (v := (2 : Int32)) hx hb dX1_actByDraw_142 (by decide) ?_
                  refine lv_irem hx hb dX1_actByDraw_143 (by decide) ?_
                  obtain ⟨r240, hb241, hF⟩ := op_bind hF
                  refine xVr (As := [.int r1, .int (jrem (d0 / (64 : Int32)) (2 : Int32))]) (rest := []) hC hP hD hS [0, 1, 2, 3, 4, 5, 6, 7, 8] (c_X1_canWalk l D cI cC cM aq aqh aqw aqs aqu ap apk apq apr qgone qmet qstill qdone qhour qworn qsquare qunder psq ppa ppe pwo pkind pwsq pwhr r1 (jrem (d0 / (64 : Int32)) (2 : Int32)) r240 hb241) (cwV 2 hts gX1_actByDraw_X1_canWalk rfl rfl rfl ⟨rfl, pd_X1_canWalk⟩ ⟨Nat.le_of_ble_eq_true rfl, Nat.le_of_ble_eq_true rfl⟩) rfl rfl 0 1 rfl rfl rfl rfl hl.1 rfl (Nat.le_of_ble_eq_true rfl) dX1_actByDraw_144 ⟨Nat.zero_le _, Nat.zero_le _⟩ (fun H locs hP hS => ?_)
                  refine lv_if_eq (tgt := 161) hx hb dX1_actByDraw_147 (by decide) (fun c242 => ?_) (fun c242 => ?_)
                  · have hF := op_pos c242 hF
                    refine lv_iload hx hb dX1_actByDraw_161 (lv_at hl 0 rfl) ?_
                    refine lv_bipush (v := (7 : Int32)) hx hb dX1_actByDraw_163 (by decide) ?_
                    refine lv_icmp_ne (tgt := 183) hx hb dX1_actByDraw_165 (by decide) (fun c243 => ?_) (fun c243 => ?_)
                    · have hF := op_neg c243 hF
                      cases hF
                      rw [hQ]
                      exact xrv hC hP hS dX1_actByDraw_183
                    · have hF := op_pos c243 hF
                      refine lv_aload_n hx hb dX1_actByDraw_168 rfl (lv_at hl 5 rfl) ?_
                      refine lv_iload hx hb dX1_actByDraw_169 (lv_at hl 2 rfl) ?_
                      obtain ⟨r244, hb245, hF⟩ := op_bind hF
                      refine xVr (As := [.int r3]) (rest := []) hC hP hD hS [0, 1, 2, 3, 4, 5, 6, 7, 8] (c_X1_isInStand l D cI cC cM aq aqh aqw aqs aqu ap apk apq apr qgone qmet qstill qdone qhour qworn qsquare qunder psq ppa ppe pwo pkind pwsq pwhr r3 r244 hb245) (cwV 1 hts gX1_actByDraw_X1_isInStand rfl rfl rfl ⟨rfl, pd_X1_isInStand⟩ ⟨Nat.le_of_ble_eq_true rfl, Nat.le_of_ble_eq_true rfl⟩) rfl rfl 0 1 rfl rfl rfl rfl hl.1 rfl (Nat.le_of_ble_eq_true rfl) dX1_actByDraw_171 ⟨Nat.zero_le _, Nat.zero_le _⟩ (fun H locs hP hS => ?_)
                      refine lv_if_eq (tgt := 183) hx hb dX1_actByDraw_174 (by decide) (fun c246 => ?_) (fun c246 => ?_)
                      · have hF := op_pos c246 hF
                        cases hF
                        rw [hQ]
                        exact xrv hC hP hS dX1_actByDraw_183
                      · have hF := op_neg c246 hF
                        refine lv_aload_n hx hb dX1_actByDraw_177 rfl (lv_at hl 5 rfl) ?_
                        refine lv_iload hx hb dX1_actByDraw_178 (lv_at hl 2 rfl) ?_
                        obtain ⟨qworn_247, hb248, hF⟩ := op_bind hF
                        refine xVv (As := [.int r3]) (rest := []) hC hP hD hS [0, 1, 2, 3, 4, 5, 6, 7, 8] (c_X1_doMend l D cI cC cM aq aqh aqw aqs aqu ap apk apq apr qgone qmet qstill qdone qhour qworn qsquare qunder psq ppa ppe pwo pkind pwsq pwhr r3 qworn_247 hb248) (cwV 1 hts gX1_actByDraw_X1_doMend rfl rfl rfl ⟨rfl, pd_X1_doMend⟩ ⟨Nat.le_of_ble_eq_true rfl, Nat.le_of_ble_eq_true rfl⟩) rfl rfl rfl 0 1 rfl rfl rfl rfl hl.1 rfl (Nat.le_of_ble_eq_true rfl) dX1_actByDraw_180 ⟨Nat.zero_le _, Nat.zero_le _⟩ (fun H locs hP hD hS => ?_)
                        have hP : va_P D vwCl [(aq, .inr (1, [.ref ap, .int qgone, .int qmet, .int qstill, .int qdone, .ref aqh, .ref aqw, .ref aqs, .ref aqu])), (aqh, .inl (cI, 6, .inl qhour)), (aqw, .inl (cI, 6, .inl qworn_247)), (aqs, .inl (cI, 5, .inl qsquare)), (aqu, .inl (cI, 5, .inl qunder)), (ap, .inr (2, [.int psq, .int ppa, .int ppe, .int pwo, .ref apk, .ref apq, .ref apr])), (apk, .inl (cI, 6, .inl pkind)), (apq, .inl (cI, 6, .inl pwsq)), (apr, .inl (cI, 6, .inl pwhr))] H := hP
                        have hD : va_D A [(aq, .inr (1, [.ref ap, .int qgone, .int qmet, .int qstill, .int qdone, .ref aqh, .ref aqw, .ref aqs, .ref aqu])), (aqh, .inl (cI, 6, .inl qhour)), (aqw, .inl (cI, 6, .inl qworn_247)), (aqs, .inl (cI, 5, .inl qsquare)), (aqu, .inl (cI, 5, .inl qunder)), (ap, .inr (2, [.int psq, .int ppa, .int ppe, .int pwo, .ref apk, .ref apq, .ref apr])), (apk, .inl (cI, 6, .inl pkind)), (apq, .inl (cI, 6, .inl pwsq)), (apr, .inl (cI, 6, .inl pwhr))] := hD
                        cases hF
                        rw [hQ]
                        exact xrv hC hP hS dX1_actByDraw_183
                  · have hF := op_neg c242 hF
                    refine lv_aload_n hx hb dX1_actByDraw_150 rfl (lv_at hl 5 rfl) ?_
                    refine lv_iload_n hx hb dX1_actByDraw_151 rfl (lv_at hl 4 rfl) ?_
                    refine lv_iload_n hx hb dX1_actByDraw_152 rfl (lv_at hl 3 rfl) ?_
                    refine lv_iconst (v := (2 : Int32)) hx hb dX1_actByDraw_153 (by decide) ?_
                    refine lv_irem hx hb dX1_actByDraw_154 (by decide) ?_
                    obtain ⟨⟨qstill_249, qsquare_250⟩, hb251, hF⟩ := op_bind hF
                    refine xVv (As := [.int r1, .int (jrem (d0 / (64 : Int32)) (2 : Int32))]) (rest := []) hC hP hD hS [0, 1, 2, 3, 4, 5, 6, 7, 8] (c_X1_doWalk l D cI cC cM aq aqh aqw aqs aqu ap apk apq apr qgone qmet qstill qdone qhour qworn qsquare qunder psq ppa ppe pwo pkind pwsq pwhr r1 (jrem (d0 / (64 : Int32)) (2 : Int32)) qstill_249 qsquare_250 hb251) (cwV 2 hts gX1_actByDraw_X1_doWalk rfl rfl rfl ⟨rfl, pd_X1_doWalk⟩ ⟨Nat.le_of_ble_eq_true rfl, Nat.le_of_ble_eq_true rfl⟩) rfl rfl rfl 0 1 rfl rfl rfl rfl hl.1 rfl (Nat.le_of_ble_eq_true rfl) dX1_actByDraw_155 ⟨Nat.zero_le _, Nat.zero_le _⟩ (fun H locs hP hD hS => ?_)
                    have hP : va_P D vwCl [(aq, .inr (1, [.ref ap, .int qgone, .int qmet, .int qstill_249, .int qdone, .ref aqh, .ref aqw, .ref aqs, .ref aqu])), (aqh, .inl (cI, 6, .inl qhour)), (aqw, .inl (cI, 6, .inl qworn)), (aqs, .inl (cI, 5, .inl qsquare_250)), (aqu, .inl (cI, 5, .inl qunder)), (ap, .inr (2, [.int psq, .int ppa, .int ppe, .int pwo, .ref apk, .ref apq, .ref apr])), (apk, .inl (cI, 6, .inl pkind)), (apq, .inl (cI, 6, .inl pwsq)), (apr, .inl (cI, 6, .inl pwhr))] H := hP
                    have hD : va_D A [(aq, .inr (1, [.ref ap, .int qgone, .int qmet, .int qstill_249, .int qdone, .ref aqh, .ref aqw, .ref aqs, .ref aqu])), (aqh, .inl (cI, 6, .inl qhour)), (aqw, .inl (cI, 6, .inl qworn)), (aqs, .inl (cI, 5, .inl qsquare_250)), (aqu, .inl (cI, 5, .inl qunder)), (ap, .inr (2, [.int psq, .int ppa, .int ppe, .int pwo, .ref apk, .ref apq, .ref apr])), (apk, .inl (cI, 6, .inl pkind)), (apq, .inl (cI, 6, .inl pwsq)), (apr, .inl (cI, 6, .inl pwhr))] := hD
                    refine lv_goto (tgt := 183) hx hb dX1_actByDraw_158 (by decide) ?_
                    cases hF
                    rw [hQ]
                    exact xrv hC hP hS dX1_actByDraw_183
            · have hF := op_neg c225 hF
              refine lv_aload_n hx hb dX1_actByDraw_118 rfl (lv_at hl 5 rfl) ?_
              refine lv_iload_n hx hb dX1_actByDraw_119 rfl (lv_at hl 4 rfl) ?_
              obtain ⟨qunder_252, hb253, hF⟩ := op_bind hF
              refine xVv (As := [.int r1]) (rest := []) hC hP hD hS [0, 1, 2, 3, 4, 5, 6, 7, 8] (c_X1_doGive l D cI cC cM aq aqh aqw aqs aqu ap apk apq apr qgone qmet qstill qdone qhour qworn qsquare qunder psq ppa ppe pwo pkind pwsq pwhr r1 qunder_252 hb253) (cwV 1 hts gX1_actByDraw_X1_doGive rfl rfl rfl ⟨rfl, pd_X1_doGive⟩ ⟨Nat.le_of_ble_eq_true rfl, Nat.le_of_ble_eq_true rfl⟩) rfl rfl rfl 0 1 rfl rfl rfl rfl hl.1 rfl (Nat.le_of_ble_eq_true rfl) dX1_actByDraw_120 ⟨Nat.zero_le _, Nat.zero_le _⟩ (fun H locs hP hD hS => ?_)
              have hP : va_P D vwCl [(aq, .inr (1, [.ref ap, .int qgone, .int qmet, .int qstill, .int qdone, .ref aqh, .ref aqw, .ref aqs, .ref aqu])), (aqh, .inl (cI, 6, .inl qhour)), (aqw, .inl (cI, 6, .inl qworn)), (aqs, .inl (cI, 5, .inl qsquare)), (aqu, .inl (cI, 5, .inl qunder_252)), (ap, .inr (2, [.int psq, .int ppa, .int ppe, .int pwo, .ref apk, .ref apq, .ref apr])), (apk, .inl (cI, 6, .inl pkind)), (apq, .inl (cI, 6, .inl pwsq)), (apr, .inl (cI, 6, .inl pwhr))] H := hP
              have hD : va_D A [(aq, .inr (1, [.ref ap, .int qgone, .int qmet, .int qstill, .int qdone, .ref aqh, .ref aqw, .ref aqs, .ref aqu])), (aqh, .inl (cI, 6, .inl qhour)), (aqw, .inl (cI, 6, .inl qworn)), (aqs, .inl (cI, 5, .inl qsquare)), (aqu, .inl (cI, 5, .inl qunder_252)), (ap, .inr (2, [.int psq, .int ppa, .int ppe, .int pwo, .ref apk, .ref apq, .ref apr])), (apk, .inl (cI, 6, .inl pkind)), (apq, .inl (cI, 6, .inl pwsq)), (apr, .inl (cI, 6, .inl pwhr))] := hD
              refine lv_goto (tgt := 183) hx hb dX1_actByDraw_123 (by decide) ?_
              cases hF
              rw [hQ]
              exact xrv hC hP hS dX1_actByDraw_183
        · have hF := op_neg c195 hF
          refine lv_aload_n hx hb dX1_actByDraw_94 rfl (lv_at hl 5 rfl) ?_
          refine lv_iload_n hx hb dX1_actByDraw_95 rfl (lv_at hl 4 rfl) ?_
          refine lv_iload hx hb dX1_actByDraw_96 (lv_at hl 1 rfl) ?_
          obtain ⟨⟨qstill_254, qunder_255⟩, hb256, hF⟩ := op_bind hF
          refine xVv (As := [.int r1, .int r5]) (rest := []) hC hP hD hS [0, 1, 2, 3, 4, 5, 6, 7, 8] (c_X1_doShare l D cI cC cM aq aqh aqw aqs aqu ap apk apq apr qgone qmet qstill qdone qhour qworn qsquare qunder psq ppa ppe pwo pkind pwsq pwhr r1 r5 qstill_254 qunder_255 hb256) (cwV 2 hts gX1_actByDraw_X1_doShare rfl rfl rfl ⟨rfl, pd_X1_doShare⟩ ⟨Nat.le_of_ble_eq_true rfl, Nat.le_of_ble_eq_true rfl⟩) rfl rfl rfl 0 1 rfl rfl rfl rfl hl.1 rfl (Nat.le_of_ble_eq_true rfl) dX1_actByDraw_98 ⟨Nat.zero_le _, Nat.zero_le _⟩ (fun H locs hP hD hS => ?_)
          have hP : va_P D vwCl [(aq, .inr (1, [.ref ap, .int qgone, .int qmet, .int qstill_254, .int qdone, .ref aqh, .ref aqw, .ref aqs, .ref aqu])), (aqh, .inl (cI, 6, .inl qhour)), (aqw, .inl (cI, 6, .inl qworn)), (aqs, .inl (cI, 5, .inl qsquare)), (aqu, .inl (cI, 5, .inl qunder_255)), (ap, .inr (2, [.int psq, .int ppa, .int ppe, .int pwo, .ref apk, .ref apq, .ref apr])), (apk, .inl (cI, 6, .inl pkind)), (apq, .inl (cI, 6, .inl pwsq)), (apr, .inl (cI, 6, .inl pwhr))] H := hP
          have hD : va_D A [(aq, .inr (1, [.ref ap, .int qgone, .int qmet, .int qstill_254, .int qdone, .ref aqh, .ref aqw, .ref aqs, .ref aqu])), (aqh, .inl (cI, 6, .inl qhour)), (aqw, .inl (cI, 6, .inl qworn)), (aqs, .inl (cI, 5, .inl qsquare)), (aqu, .inl (cI, 5, .inl qunder_255)), (ap, .inr (2, [.int psq, .int ppa, .int ppe, .int pwo, .ref apk, .ref apq, .ref apr])), (apk, .inl (cI, 6, .inl pkind)), (apq, .inl (cI, 6, .inl pwsq)), (apr, .inl (cI, 6, .inl pwhr))] := hD
          refine lv_goto (tgt := 183) hx hb dX1_actByDraw_101 (by decide) ?_
          cases hF
          rw [hQ]
          exact xrv hC hP hS dX1_actByDraw_183
    · have hF := op_neg c133 hF
      refine lv_aload_n hx hb dX1_actByDraw_68 rfl (lv_at hl 5 rfl) ?_
      refine lv_iload_n hx hb dX1_actByDraw_69 rfl (lv_at hl 4 rfl) ?_
      refine lv_iload hx hb dX1_actByDraw_70 (lv_at hl 2 rfl) ?_
      obtain ⟨qunder_257, hb258, hF⟩ := op_bind hF
      refine xVv (As := [.int r1, .int r3]) (rest := []) hC hP hD hS [0, 1, 2, 3, 4, 5, 6, 7, 8] (c_X1_doTake l D cI cC cM aq aqh aqw aqs aqu ap apk apq apr qgone qmet qstill qdone qhour qworn qsquare qunder psq ppa ppe pwo pkind pwsq pwhr r1 r3 qunder_257 hb258) (cwV 2 hts gX1_actByDraw_X1_doTake rfl rfl rfl ⟨rfl, pd_X1_doTake⟩ ⟨Nat.le_of_ble_eq_true rfl, Nat.le_of_ble_eq_true rfl⟩) rfl rfl rfl 0 1 rfl rfl rfl rfl hl.1 rfl (Nat.le_of_ble_eq_true rfl) dX1_actByDraw_72 ⟨Nat.zero_le _, Nat.zero_le _⟩ (fun H locs hP hD hS => ?_)
      have hP : va_P D vwCl [(aq, .inr (1, [.ref ap, .int qgone, .int qmet, .int qstill, .int qdone, .ref aqh, .ref aqw, .ref aqs, .ref aqu])), (aqh, .inl (cI, 6, .inl qhour)), (aqw, .inl (cI, 6, .inl qworn)), (aqs, .inl (cI, 5, .inl qsquare)), (aqu, .inl (cI, 5, .inl qunder_257)), (ap, .inr (2, [.int psq, .int ppa, .int ppe, .int pwo, .ref apk, .ref apq, .ref apr])), (apk, .inl (cI, 6, .inl pkind)), (apq, .inl (cI, 6, .inl pwsq)), (apr, .inl (cI, 6, .inl pwhr))] H := hP
      have hD : va_D A [(aq, .inr (1, [.ref ap, .int qgone, .int qmet, .int qstill, .int qdone, .ref aqh, .ref aqw, .ref aqs, .ref aqu])), (aqh, .inl (cI, 6, .inl qhour)), (aqw, .inl (cI, 6, .inl qworn)), (aqs, .inl (cI, 5, .inl qsquare)), (aqu, .inl (cI, 5, .inl qunder_257)), (ap, .inr (2, [.int psq, .int ppa, .int ppe, .int pwo, .ref apk, .ref apq, .ref apr])), (apk, .inl (cI, 6, .inl pkind)), (apq, .inl (cI, 6, .inl pwsq)), (apr, .inl (cI, 6, .inl pwhr))] := hD
      refine lv_goto (tgt := 183) hx hb dX1_actByDraw_75 (by decide) ?_
      cases hF
      rw [hQ]
      exact xrv hC hP hS dX1_actByDraw_183
