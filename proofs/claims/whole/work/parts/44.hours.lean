def f_X7_until (ppa : Int32) (pkind : (Nat → Int32)) (qgone : Int32) (qhour : (Nat → Int32)) (u : Int32) (h : Int32) : Option Int32 := (Option.bind (f_X2_hasParasol ppa u) fun r1 => (if r1 = 0 then (some (-1 : Int32)) else (Option.bind (f_X7_isHour h) fun r4 => (if r4 = 0 then (some (-1 : Int32)) else (Option.bind (f_X1_hoursUntil qgone qhour pkind u h) fun r7 => (some r7))))))

def rm_X7_until : Room := { frames := 5, cells := 0, slots := 0, locals := 112 }

theorem pd_X7_until : yX7_until.cls ≠ "java/lang/invoke/MethodHandle" ∧ yX7_until.cls ≠ "java/lang/invoke/VarHandle" ∧ (parseMethodDescriptor yX7_until.desc).map (fun d => d.parameters.length) = some 2 := by decide +kernel

set_option maxHeartbeats 4000000 in
set_option maxRecDepth 100000 in
theorem c_X7_until (l : Launch) (D : va_G) (cI cC cM : ClassId) (ax ap apk apq apr aq aqh aqw aqs aqu ay ar aj az ak ae ad : Nat) (psq : Int32) (ppa : Int32) (ppe : Int32) (pwo : Int32) (pkind : (Nat → Int32)) (pwsq : (Nat → Int32)) (pwhr : (Nat → Int32)) (qgone : Int32) (qmet : Int32) (qstill : Int32) (qdone : Int32) (qhour : (Nat → Int32)) (qworn : (Nat → Int32)) (qsquare : (Nat → Int32)) (qunder : (Nat → Int32)) (u : Int32) (h : Int32) (rr : Int32) (hF : f_X7_until ppa pkind qgone qhour u h = some rr) : CI l D cI cC cM yX7_until wsX7_until rm_X7_until [.ref ax, .int u, .int h] [(ax, .inr (7, [.ref ay, .ref ar, .ref ap, .ref aq, .ref aj, .ref az, .ref ak, .ref ae, .ref ad])), (ap, .inr (2, [.int psq, .int ppa, .int ppe, .int pwo, .ref apk, .ref apq, .ref apr])), (apk, .inl (cI, 6, .inl pkind)), (apq, .inl (cI, 6, .inl pwsq)), (apr, .inl (cI, 6, .inl pwhr)), (aq, .inr (1, [.ref ap, .int qgone, .int qmet, .int qstill, .int qdone, .ref aqh, .ref aqw, .ref aqs, .ref aqu])), (aqh, .inl (cI, 6, .inl qhour)), (aqw, .inl (cI, 6, .inl qworn)), (aqs, .inl (cI, 5, .inl qsquare)), (aqu, .inl (cI, 5, .inl qunder))] [(ax, .inr (7, [.ref ay, .ref ar, .ref ap, .ref aq, .ref aj, .ref az, .ref ak, .ref ae, .ref ad])), (ap, .inr (2, [.int psq, .int ppa, .int ppe, .int pwo, .ref apk, .ref apq, .ref apr])), (apk, .inl (cI, 6, .inl pkind)), (apq, .inl (cI, 6, .inl pwsq)), (apr, .inl (cI, 6, .inl pwhr)), (aq, .inr (1, [.ref ap, .int qgone, .int qmet, .int qstill, .int qdone, .ref aqh, .ref aqw, .ref aqs, .ref aqu])), (aqh, .inl (cI, 6, .inl qhour)), (aqw, .inl (cI, 6, .inl qworn)), (aqs, .inl (cI, 5, .inl qsquare)), (aqu, .inl (cI, 5, .inl qunder))] rr := by
  refine CI.of (cc := cX7_until) (nL := 3) (ret := (some .int)) (by decide) rfl (Nat.le_of_ble_eq_true rfl) ?_
  intro p e s m args below meth c A hC hP hD hS ls hl
  obtain ⟨hx, hb, hml, hown, hts, hr, hlk, hG, hA⟩ := id hC
  have hown : s.vm.findClass RX7 = some m.cls := hown
  have hK := hG.1
  have hl : lv_has ls 3 [(0, .ref ax), (1, .int u), (2, .int h)] := hl
  have k_f26 := hts (.fieldLink RX7 26 "ParasolHours" "plan" "LParasolHours$Plan;") (List.mem_of_getElem? (i := 1) rfl)
  have k_f35 := hts (.fieldLink RX7 35 "ParasolHours" "now" "LParasolHours$Moment;") (List.mem_of_getElem? (i := 2) rfl)
  have iX7 : ∀ w ∈ wsX70, w ∈ wsX7_until := by decide +kernel
  obtain ⟨Q, hQ⟩ : ∃ Q, Q = MQ below (QI D [(ax, .inr (7, [.ref ay, .ref ar, .ref ap, .ref aq, .ref aj, .ref az, .ref ak, .ref ae, .ref ad])), (ap, .inr (2, [.int psq, .int ppa, .int ppe, .int pwo, .ref apk, .ref apq, .ref apr])), (apk, .inl (cI, 6, .inl pkind)), (apq, .inl (cI, 6, .inl pwsq)), (apr, .inl (cI, 6, .inl pwhr)), (aq, .inr (1, [.ref ap, .int qgone, .int qmet, .int qstill, .int qdone, .ref aqh, .ref aqw, .ref aqs, .ref aqu])), (aqh, .inl (cI, 6, .inl qhour)), (aqw, .inl (cI, 6, .inl qworn)), (aqs, .inl (cI, 5, .inl qsquare)), (aqu, .inl (cI, 5, .inl qunder))] rr A) args s 0 0 A := ⟨_, rfl⟩
  rw [← hQ]
  unfold f_X7_until at hF
  refine lv_aload_n hx hb dX7_until_0 rfl (lv_at hl 0 rfl) ?_
  refine va_get (D := D) (ci := 7) (v := .ref ap) (C := RX7) (T := TX7) (N := 9) hx hb hts iX7 hown hK hP 0 rfl rfl 2 (by decide) k_f26 (fun _ h9 => h9) rfl dX7_until_1 ?_
  refine lv_iload_n hx hb dX7_until_4 rfl (lv_at hl 1 rfl) ?_
  obtain ⟨r1, hb2, hF⟩ := op_bind hF
  refine xVr (As := [.int u]) (rest := []) hC hP hD hS [1, 2, 3, 4] (c_X2_hasParasol l D cI cC cM ap apk apq apr psq ppa ppe pwo pkind pwsq pwhr u r1 hb2) (cwV 1 hts gX7_until_X2_hasParasol rfl rfl rfl ⟨rfl, pd_X2_hasParasol⟩ ⟨Nat.le_of_ble_eq_true rfl, Nat.le_of_ble_eq_true rfl⟩) rfl rfl 1 2 rfl rfl rfl rfl hl.1 rfl (Nat.le_of_ble_eq_true rfl) dX7_until_5 ⟨Nat.zero_le _, Nat.zero_le _⟩ (fun H locs hP hS => ?_)
  refine lv_if_eq (tgt := 18) hx hb dX7_until_8 (by decide) (fun c3 => ?_) (fun c3 => ?_)
  · have hF := op_pos c3 hF
    refine lv_iconst (v := (-1 : Int32)) hx hb dX7_until_18 (by decide) ?_
    cases hF
    rw [hQ]
    exact xri hC hP hS dX7_until_19
  · have hF := op_neg c3 hF
    refine lv_iload_n hx hb dX7_until_11 rfl (lv_at hl 2 rfl) ?_
    obtain ⟨r4, hb5, hF⟩ := op_bind hF
    refine xSr (As := [.int h]) (rest := []) hC hP hD hS [] (c_X7_isHour l D cI cC cM h r4 hb5) (va_cwS 1 hts gX7_until_X7_isHour rfl rfl rfl pd_X7_isHour ⟨Nat.le_of_ble_eq_true rfl, Nat.le_of_ble_eq_true rfl⟩) rfl rfl rfl hl.1 rfl (Nat.le_of_ble_eq_true rfl) dX7_until_12 ⟨Nat.zero_le _, Nat.zero_le _⟩ (fun H locs hP hS => ?_)
    refine lv_if_ne (tgt := 20) hx hb dX7_until_15 (by decide) (fun c6 => ?_) (fun c6 => ?_)
    · have hF := op_neg c6 hF
      refine lv_aload_n hx hb dX7_until_20 rfl (lv_at hl 0 rfl) ?_
      refine va_get (D := D) (ci := 7) (v := .ref aq) (C := RX7) (T := TX7) (N := 9) hx hb hts iX7 hown hK hP 0 rfl rfl 3 (by decide) k_f35 (fun _ h9 => h9) rfl dX7_until_21 ?_
      refine lv_iload_n hx hb dX7_until_24 rfl (lv_at hl 1 rfl) ?_
      refine lv_iload_n hx hb dX7_until_25 rfl (lv_at hl 2 rfl) ?_
      obtain ⟨r7, hb8, hF⟩ := op_bind hF
      refine xVr (As := [.int u, .int h]) (rest := []) hC hP hD hS [5, 6, 7, 8, 9, 1, 2, 3, 4] (c_X1_hoursUntil l D cI cC cM aq aqh aqw aqs aqu ap apk apq apr qgone qmet qstill qdone qhour qworn qsquare qunder psq ppa ppe pwo pkind pwsq pwhr u h r7 hb8) (cwV 2 hts gX7_until_X1_hoursUntil rfl rfl rfl ⟨rfl, pd_X1_hoursUntil⟩ ⟨Nat.le_of_ble_eq_true rfl, Nat.le_of_ble_eq_true rfl⟩) rfl rfl 5 1 rfl rfl rfl rfl hl.1 rfl (Nat.le_of_ble_eq_true rfl) dX7_until_26 ⟨Nat.zero_le _, Nat.zero_le _⟩ (fun H locs hP hS => ?_)
      cases hF
      rw [hQ]
      exact xri hC hP hS dX7_until_29
    · have hF := op_pos c6 hF
      refine lv_iconst (v := (-1 : Int32)) hx hb dX7_until_18 (by decide) ?_
      cases hF
      rw [hQ]
      exact xri hC hP hS dX7_until_19

def f_X7_agree_L31 (qgone : Int32) (qhour : (Nat → Int32)) (pkind : (Nat → Int32)) (u : Int32) (v : Int32) (k31 : Int32 → Option Int32) : Nat → Int32 → Option Int32
  | 0, _ => none
  | nf31 + 1, v8 => (if (48 : Int32) < v8 then (k31 v8) else (Option.bind (f_X1_hourBehind qgone qhour pkind u v8) fun r10 => (Option.bind (f_X1_hourBehind qgone qhour pkind v v8) fun r12 => (if r10 = r12 then (some v8) else (f_X7_agree_L31 qgone qhour pkind u v k31 nf31 (v8 + (1 : Int32)))))))
theorem f_X7_agree_L31_0 (qgone : Int32) (qhour : (Nat → Int32)) (pkind : (Nat → Int32)) (u : Int32) (v : Int32) (k31 : Int32 → Option Int32) (v8 : Int32) : f_X7_agree_L31 qgone qhour pkind u v k31 0 v8 = none := rfl
theorem f_X7_agree_L31_s (qgone : Int32) (qhour : (Nat → Int32)) (pkind : (Nat → Int32)) (u : Int32) (v : Int32) (k31 : Int32 → Option Int32) (nf31 : Nat) (v8 : Int32) : f_X7_agree_L31 qgone qhour pkind u v k31 (nf31 + 1) v8 = (if (48 : Int32) < v8 then (k31 v8) else (Option.bind (f_X1_hourBehind qgone qhour pkind u v8) fun r10 => (Option.bind (f_X1_hourBehind qgone qhour pkind v v8) fun r12 => (if r10 = r12 then (some v8) else (f_X7_agree_L31 qgone qhour pkind u v k31 nf31 (v8 + (1 : Int32))))))) := rfl

def f_X7_agree (ppa : Int32) (pkind : (Nat → Int32)) (qgone : Int32) (qhour : (Nat → Int32)) (u : Int32) (v : Int32) : Option Int32 := (Option.bind (f_X2_hasParasol ppa u) fun r1 => (if r1 = 0 then (some (-1 : Int32)) else (Option.bind (f_X2_hasParasol ppa v) fun r4 => (if r4 = 0 then (some (-1 : Int32)) else (if u = v then (some (-1 : Int32)) else (f_X7_agree_L31 qgone qhour pkind u v (fun (v8 : Int32) => (some (-4 : Int32))) 20000 (0 : Int32)))))))

def rm_X7_agree : Room := { frames := 4, cells := 0, slots := 0, locals := 89 }

theorem pd_X7_agree : yX7_agree.cls ≠ "java/lang/invoke/MethodHandle" ∧ yX7_agree.cls ≠ "java/lang/invoke/VarHandle" ∧ (parseMethodDescriptor yX7_agree.desc).map (fun d => d.parameters.length) = some 2 := by decide +kernel

set_option maxHeartbeats 4000000 in
set_option maxRecDepth 100000 in
theorem c_X7_agree (l : Launch) (D : va_G) (cI cC cM : ClassId) (ax ap apk apq apr aq aqh aqw aqs aqu ay ar aj az ak ae ad : Nat) (psq : Int32) (ppa : Int32) (ppe : Int32) (pwo : Int32) (pkind : (Nat → Int32)) (pwsq : (Nat → Int32)) (pwhr : (Nat → Int32)) (qgone : Int32) (qmet : Int32) (qstill : Int32) (qdone : Int32) (qhour : (Nat → Int32)) (qworn : (Nat → Int32)) (qsquare : (Nat → Int32)) (qunder : (Nat → Int32)) (u : Int32) (v : Int32) (rr : Int32) (hF : f_X7_agree ppa pkind qgone qhour u v = some rr) : CI l D cI cC cM yX7_agree wsX7_agree rm_X7_agree [.ref ax, .int u, .int v] [(ax, .inr (7, [.ref ay, .ref ar, .ref ap, .ref aq, .ref aj, .ref az, .ref ak, .ref ae, .ref ad])), (ap, .inr (2, [.int psq, .int ppa, .int ppe, .int pwo, .ref apk, .ref apq, .ref apr])), (apk, .inl (cI, 6, .inl pkind)), (apq, .inl (cI, 6, .inl pwsq)), (apr, .inl (cI, 6, .inl pwhr)), (aq, .inr (1, [.ref ap, .int qgone, .int qmet, .int qstill, .int qdone, .ref aqh, .ref aqw, .ref aqs, .ref aqu])), (aqh, .inl (cI, 6, .inl qhour)), (aqw, .inl (cI, 6, .inl qworn)), (aqs, .inl (cI, 5, .inl qsquare)), (aqu, .inl (cI, 5, .inl qunder))] [(ax, .inr (7, [.ref ay, .ref ar, .ref ap, .ref aq, .ref aj, .ref az, .ref ak, .ref ae, .ref ad])), (ap, .inr (2, [.int psq, .int ppa, .int ppe, .int pwo, .ref apk, .ref apq, .ref apr])), (apk, .inl (cI, 6, .inl pkind)), (apq, .inl (cI, 6, .inl pwsq)), (apr, .inl (cI, 6, .inl pwhr)), (aq, .inr (1, [.ref ap, .int qgone, .int qmet, .int qstill, .int qdone, .ref aqh, .ref aqw, .ref aqs, .ref aqu])), (aqh, .inl (cI, 6, .inl qhour)), (aqw, .inl (cI, 6, .inl qworn)), (aqs, .inl (cI, 5, .inl qsquare)), (aqu, .inl (cI, 5, .inl qunder))] rr := by
  refine CI.of (cc := cX7_agree) (nL := 4) (ret := (some .int)) (by decide) rfl (Nat.le_of_ble_eq_true rfl) ?_
  intro p e s m args below meth c A hC hP hD hS ls hl
  obtain ⟨hx, hb, hml, hown, hts, hr, hlk, hG, hA⟩ := id hC
  have hown : s.vm.findClass RX7 = some m.cls := hown
  have hK := hG.1
  have hl : lv_has ls 4 [(0, .ref ax), (1, .int u), (2, .int v)] := hl
  have k_f26 := hts (.fieldLink RX7 26 "ParasolHours" "plan" "LParasolHours$Plan;") (List.mem_of_getElem? (i := 1) rfl)
  have k_f35 := hts (.fieldLink RX7 35 "ParasolHours" "now" "LParasolHours$Moment;") (List.mem_of_getElem? (i := 2) rfl)
  have iX7 : ∀ w ∈ wsX70, w ∈ wsX7_agree := by decide +kernel
  obtain ⟨Q, hQ⟩ : ∃ Q, Q = MQ below (QI D [(ax, .inr (7, [.ref ay, .ref ar, .ref ap, .ref aq, .ref aj, .ref az, .ref ak, .ref ae, .ref ad])), (ap, .inr (2, [.int psq, .int ppa, .int ppe, .int pwo, .ref apk, .ref apq, .ref apr])), (apk, .inl (cI, 6, .inl pkind)), (apq, .inl (cI, 6, .inl pwsq)), (apr, .inl (cI, 6, .inl pwhr)), (aq, .inr (1, [.ref ap, .int qgone, .int qmet, .int qstill, .int qdone, .ref aqh, .ref aqw, .ref aqs, .ref aqu])), (aqh, .inl (cI, 6, .inl qhour)), (aqw, .inl (cI, 6, .inl qworn)), (aqs, .inl (cI, 5, .inl qsquare)), (aqu, .inl (cI, 5, .inl qunder))] rr A) args s 0 0 A := ⟨_, rfl⟩
  rw [← hQ]
  unfold f_X7_agree at hF
  refine lv_aload_n hx hb dX7_agree_0 rfl (lv_at hl 0 rfl) ?_
  refine va_get (D := D) (ci := 7) (v := .ref ap) (C := RX7) (T := TX7) (N := 9) hx hb hts iX7 hown hK hP 0 rfl rfl 2 (by decide) k_f26 (fun _ h9 => h9) rfl dX7_agree_1 ?_
  refine lv_iload_n hx hb dX7_agree_4 rfl (lv_at hl 1 rfl) ?_
  obtain ⟨r1, hb2, hF⟩ := op_bind hF
  refine xVr (As := [.int u]) (rest := []) hC hP hD hS [1, 2, 3, 4] (c_X2_hasParasol l D cI cC cM ap apk apq apr psq ppa ppe pwo pkind pwsq pwhr u r1 hb2) (cwV 1 hts gX7_agree_X2_hasParasol rfl rfl rfl ⟨rfl, pd_X2_hasParasol⟩ ⟨Nat.le_of_ble_eq_true rfl, Nat.le_of_ble_eq_true rfl⟩) rfl rfl 1 2 rfl rfl rfl rfl hl.1 rfl (Nat.le_of_ble_eq_true rfl) dX7_agree_5 ⟨Nat.zero_le _, Nat.zero_le _⟩ (fun H locs hP hS => ?_)
  refine lv_if_eq (tgt := 27) hx hb dX7_agree_8 (by decide) (fun c3 => ?_) (fun c3 => ?_)
  · have hF := op_pos c3 hF
    refine lv_iconst (v := (-1 : Int32)) hx hb dX7_agree_27 (by decide) ?_
    cases hF
    rw [hQ]
    exact xri hC hP hS dX7_agree_28
  · have hF := op_neg c3 hF
    refine lv_aload_n hx hb dX7_agree_11 rfl (lv_at hl 0 rfl) ?_
    refine va_get (D := D) (ci := 7) (v := .ref ap) (C := RX7) (T := TX7) (N := 9) hx hb hts iX7 hown hK hP 0 rfl rfl 2 (by decide) k_f26 (fun _ h9 => h9) rfl dX7_agree_12 ?_
    refine lv_iload_n hx hb dX7_agree_15 rfl (lv_at hl 2 rfl) ?_
    obtain ⟨r4, hb5, hF⟩ := op_bind hF
    refine xVr (As := [.int v]) (rest := []) hC hP hD hS [1, 2, 3, 4] (c_X2_hasParasol l D cI cC cM ap apk apq apr psq ppa ppe pwo pkind pwsq pwhr v r4 hb5) (cwV 1 hts gX7_agree_X2_hasParasol rfl rfl rfl ⟨rfl, pd_X2_hasParasol⟩ ⟨Nat.le_of_ble_eq_true rfl, Nat.le_of_ble_eq_true rfl⟩) rfl rfl 1 2 rfl rfl rfl rfl hl.1 rfl (Nat.le_of_ble_eq_true rfl) dX7_agree_16 ⟨Nat.zero_le _, Nat.zero_le _⟩ (fun H locs hP hS => ?_)
    refine lv_if_eq (tgt := 27) hx hb dX7_agree_19 (by decide) (fun c6 => ?_) (fun c6 => ?_)
    · have hF := op_pos c6 hF
      refine lv_iconst (v := (-1 : Int32)) hx hb dX7_agree_27 (by decide) ?_
      cases hF
      rw [hQ]
      exact xri hC hP hS dX7_agree_28
    · have hF := op_neg c6 hF
      refine lv_iload_n hx hb dX7_agree_22 rfl (lv_at hl 1 rfl) ?_
      refine lv_iload_n hx hb dX7_agree_23 rfl (lv_at hl 2 rfl) ?_
      refine lv_icmp_ne (tgt := 29) hx hb dX7_agree_24 (by decide) (fun c7 => ?_) (fun c7 => ?_)
      · have hF := op_neg c7 hF
        refine lv_iconst (v := (0 : Int32)) hx hb dX7_agree_29 (by decide) ?_
        refine lv_istore_n (lv' := [(3, .int (0 : Int32)), (0, .ref ax), (1, .int u), (2, .int v)]) hx hb dX7_agree_30 rfl hl (by decide) rfl (fun ls hl => ?_)
        have hL31 : ∀ (k31 : Int32 → Option Int32), (∀ (v8 : Int32) (H : Heap) (locs : List Loc), va_P D vwCl [(ax, .inr (7, [.ref ay, .ref ar, .ref ap, .ref aq, .ref aj, .ref az, .ref ak, .ref ae, .ref ad])), (ap, .inr (2, [.int psq, .int ppa, .int ppe, .int pwo, .ref apk, .ref apq, .ref apr])), (apk, .inl (cI, 6, .inl pkind)), (apq, .inl (cI, 6, .inl pwsq)), (apr, .inl (cI, 6, .inl pwhr)), (aq, .inr (1, [.ref ap, .int qgone, .int qmet, .int qstill, .int qdone, .ref aqh, .ref aqw, .ref aqs, .ref aqu])), (aqh, .inl (cI, 6, .inl qhour)), (aqw, .inl (cI, 6, .inl qworn)), (aqs, .inl (cI, 5, .inl qsquare)), (aqu, .inl (cI, 5, .inl qunder))] H → va_D A [(ax, .inr (7, [.ref ay, .ref ar, .ref ap, .ref aq, .ref aj, .ref az, .ref ak, .ref ae, .ref ad])), (ap, .inr (2, [.int psq, .int ppa, .int ppe, .int pwo, .ref apk, .ref apq, .ref apr])), (apk, .inl (cI, 6, .inl pkind)), (apq, .inl (cI, 6, .inl pwsq)), (apr, .inl (cI, 6, .inl pwhr)), (aq, .inr (1, [.ref ap, .int qgone, .int qmet, .int qstill, .int qdone, .ref aqh, .ref aqw, .ref aqs, .ref aqu])), (aqh, .inl (cI, 6, .inl qhour)), (aqw, .inl (cI, 6, .inl qworn)), (aqs, .inl (cI, 5, .inl qsquare)), (aqu, .inl (cI, 5, .inl qunder))] → va_S A s.heap H locs → ∀ ls : Array Slot, lv_has ls 4 [] → k31 v8 = some rr → W p l e rm_X7_agree s m args below meth c H locs 0 0 Q (F0 m 66 ls [])) → ∀ (nf31 : Nat) (v8 : Int32) (H : Heap) (locs : List Loc), va_P D vwCl [(ax, .inr (7, [.ref ay, .ref ar, .ref ap, .ref aq, .ref aj, .ref az, .ref ak, .ref ae, .ref ad])), (ap, .inr (2, [.int psq, .int ppa, .int ppe, .int pwo, .ref apk, .ref apq, .ref apr])), (apk, .inl (cI, 6, .inl pkind)), (apq, .inl (cI, 6, .inl pwsq)), (apr, .inl (cI, 6, .inl pwhr)), (aq, .inr (1, [.ref ap, .int qgone, .int qmet, .int qstill, .int qdone, .ref aqh, .ref aqw, .ref aqs, .ref aqu])), (aqh, .inl (cI, 6, .inl qhour)), (aqw, .inl (cI, 6, .inl qworn)), (aqs, .inl (cI, 5, .inl qsquare)), (aqu, .inl (cI, 5, .inl qunder))] H → va_D A [(ax, .inr (7, [.ref ay, .ref ar, .ref ap, .ref aq, .ref aj, .ref az, .ref ak, .ref ae, .ref ad])), (ap, .inr (2, [.int psq, .int ppa, .int ppe, .int pwo, .ref apk, .ref apq, .ref apr])), (apk, .inl (cI, 6, .inl pkind)), (apq, .inl (cI, 6, .inl pwsq)), (apr, .inl (cI, 6, .inl pwhr)), (aq, .inr (1, [.ref ap, .int qgone, .int qmet, .int qstill, .int qdone, .ref aqh, .ref aqw, .ref aqs, .ref aqu])), (aqh, .inl (cI, 6, .inl qhour)), (aqw, .inl (cI, 6, .inl qworn)), (aqs, .inl (cI, 5, .inl qsquare)), (aqu, .inl (cI, 5, .inl qunder))] → va_S A s.heap H locs → ∀ ls : Array Slot, lv_has ls 4 [(3, .int v8), (0, .ref ax), (1, .int u), (2, .int v)] → f_X7_agree_L31 qgone qhour pkind u v k31 nf31 v8 = some rr → W p l e rm_X7_agree s m args below meth c H locs 0 0 Q (F0 m 31 ls []) := by
          intro k31 hk31 nf31
          induction nf31 with
          | zero =>
            intro v8 H locs hP hD hS ls hl hF
            rw [f_X7_agree_L31_0] at hF
            cases hF
          | succ nf31 ih31 =>
            intro v8 H locs hP hD hS ls hl hF
            rw [f_X7_agree_L31_s] at hF
            refine lv_iload_n hx hb dX7_agree_31 rfl (lv_at hl 0 rfl) ?_
            refine lv_bipush (v := (48 : Int32)) hx hb dX7_agree_32 (by decide) ?_
            refine lv_icmp_gt (tgt := 66) hx hb dX7_agree_34 (by decide) (fun c9 => ?_) (fun c9 => ?_)
            · have hF := op_pos c9 hF
              exact hk31 v8 _ _ hP hD hS _ (lv_sub hl [] rfl) hF
            · have hF := op_neg c9 hF
              refine lv_aload_n hx hb dX7_agree_37 rfl (lv_at hl 1 rfl) ?_
              refine va_get (D := D) (ci := 7) (v := .ref aq) (C := RX7) (T := TX7) (N := 9) hx hb hts iX7 hown hK hP 0 rfl rfl 3 (by decide) k_f35 (fun _ h9 => h9) rfl dX7_agree_38 ?_
              refine lv_iload_n hx hb dX7_agree_41 rfl (lv_at hl 2 rfl) ?_
              refine lv_iload_n hx hb dX7_agree_42 rfl (lv_at hl 0 rfl) ?_
              obtain ⟨r10, hb11, hF⟩ := op_bind hF
              refine xVr (As := [.int u, .int v8]) (rest := []) hC hP hD hS [5, 6, 7, 8, 9, 1, 2, 3, 4] (c_X1_hourBehind l D cI cC cM aq aqh aqw aqs aqu ap apk apq apr qgone qmet qstill qdone qhour qworn qsquare qunder psq ppa ppe pwo pkind pwsq pwhr u v8 r10 hb11) (cwV 2 hts gX7_agree_X1_hourBehind rfl rfl rfl ⟨rfl, pd_X1_hourBehind⟩ ⟨Nat.le_of_ble_eq_true rfl, Nat.le_of_ble_eq_true rfl⟩) rfl rfl 5 1 rfl rfl rfl rfl hl.1 rfl (Nat.le_of_ble_eq_true rfl) dX7_agree_43 ⟨Nat.zero_le _, Nat.zero_le _⟩ (fun H locs hP hS => ?_)
              refine lv_aload_n hx hb dX7_agree_46 rfl (lv_at hl 1 rfl) ?_
              refine va_get (D := D) (ci := 7) (v := .ref aq) (C := RX7) (T := TX7) (N := 9) hx hb hts iX7 hown hK hP 0 rfl rfl 3 (by decide) k_f35 (fun _ h9 => h9) rfl dX7_agree_47 ?_
              refine lv_iload_n hx hb dX7_agree_50 rfl (lv_at hl 3 rfl) ?_
              refine lv_iload_n hx hb dX7_agree_51 rfl (lv_at hl 0 rfl) ?_
              obtain ⟨r12, hb13, hF⟩ := op_bind hF
              refine xVr (As := [.int v, .int v8]) (rest := [.int r10]) hC hP hD hS [5, 6, 7, 8, 9, 1, 2, 3, 4] (c_X1_hourBehind l D cI cC cM aq aqh aqw aqs aqu ap apk apq apr qgone qmet qstill qdone qhour qworn qsquare qunder psq ppa ppe pwo pkind pwsq pwhr v v8 r12 hb13) (cwV 2 hts gX7_agree_X1_hourBehind rfl rfl rfl ⟨rfl, pd_X1_hourBehind⟩ ⟨Nat.le_of_ble_eq_true rfl, Nat.le_of_ble_eq_true rfl⟩) rfl rfl 5 1 rfl rfl rfl rfl hl.1 rfl (Nat.le_of_ble_eq_true rfl) dX7_agree_52 ⟨Nat.zero_le _, Nat.zero_le _⟩ (fun H locs hP hS => ?_)
              refine lv_icmp_ne (tgt := 60) hx hb dX7_agree_55 (by decide) (fun c14 => ?_) (fun c14 => ?_)
              · have hF := op_neg c14 hF
                refine lv_iinc (v := (v8 + (1 : Int32))) (lv' := [(3, .int (v8 + (1 : Int32))), (0, .ref ax), (1, .int u), (2, .int v)]) hx hb dX7_agree_60 hl (k := 0) rfl (by first | rfl | decide) (by decide) rfl (fun ls hl => ?_)
                refine lv_goto (tgt := 31) hx hb dX7_agree_63 (by decide) ?_
                exact ih31 (v8 + (1 : Int32)) _ _ hP hD hS _ (lv_sub hl [0, 1, 2, 3] rfl) hF
              · have hF := op_pos c14 hF
                refine lv_iload_n hx hb dX7_agree_58 rfl (lv_at hl 0 rfl) ?_
                cases hF
                rw [hQ]
                exact xri hC hP hS dX7_agree_59
        refine hL31 _ (fun v8 H locs hP hD hS ls hl hF => ?_) 20000 (0 : Int32) _ _ hP hD hS _ (lv_sub hl [0, 1, 2, 3] rfl) hF
        refine lv_bipush (v := (-4 : Int32)) hx hb dX7_agree_66 (by decide) ?_
        cases hF
        rw [hQ]
        exact xri hC hP hS dX7_agree_68
      · have hF := op_pos c7 hF
        refine lv_iconst (v := (-1 : Int32)) hx hb dX7_agree_27 (by decide) ?_
        cases hF
        rw [hQ]
        exact xri hC hP hS dX7_agree_28

def f_X7_deal (psq : Int32) (ppa : Int32) (ppe : Int32) (pwo : Int32) (pkind : (Nat → Int32)) (pwsq : (Nat → Int32)) (pwhr : (Nat → Int32)) (qgone : Int32) (qmet : Int32) (qstill : Int32) (qdone : Int32) (qhour : (Nat → Int32)) (qworn : (Nat → Int32)) (qsquare : (Nat → Int32)) (qunder : (Nat → Int32)) (dmost : Int32) (dcho : (Nat → Int32)) (dbest : (Nat → Int32)) (dreach : (Nat → Int32)) (k : Int32) : Option (Int32 × Int32 × (Nat → Int32) × (Nat → Int32) × (Nat → Int32)) := (if k = (-1 : Int32) then (Option.bind (f_X0_findBest dcho dbest dreach qgone qmet qstill qdone qhour qworn qsquare qunder psq ppa ppe pwo pkind pwsq pwhr) fun (dmost_2, dcho_3, dbest_4, dreach_5) => (some (dmost_2, dmost_2, dcho_3, dbest_4, dreach_5))) else (Option.bind (f_X2_hasPerson ppe k) fun r7 => (if r7 = 0 then (some ((-1 : Int32), dmost, dcho, dbest, dreach)) else (Option.bind (f_X0_findBest dcho dbest dreach qgone qmet qstill qdone qhour qworn qsquare qunder psq ppa ppe pwo pkind pwsq pwhr) fun (dmost_10, dcho_11, dbest_12, dreach_13) => (Option.bind (f_X0_bestOf dbest_12 k) fun r15 => (some (r15, dmost_10, dcho_11, dbest_12, dreach_13)))))))

def rm_X7_deal : Room := { frames := 13, cells := 0, slots := 0, locals := 312 }

theorem pd_X7_deal : yX7_deal.cls ≠ "java/lang/invoke/MethodHandle" ∧ yX7_deal.cls ≠ "java/lang/invoke/VarHandle" ∧ (parseMethodDescriptor yX7_deal.desc).map (fun d => d.parameters.length) = some 1 := by decide +kernel

set_option maxHeartbeats 4000000 in
set_option maxRecDepth 100000 in
theorem c_X7_deal (l : Launch) (D : va_G) (cI cC cM : ClassId) (ax ap apk apq apr aq aqh aqw aqs aqu ad adc adb adr ay ar aj az ak ae : Nat) (psq : Int32) (ppa : Int32) (ppe : Int32) (pwo : Int32) (pkind : (Nat → Int32)) (pwsq : (Nat → Int32)) (pwhr : (Nat → Int32)) (qgone : Int32) (qmet : Int32) (qstill : Int32) (qdone : Int32) (qhour : (Nat → Int32)) (qworn : (Nat → Int32)) (qsquare : (Nat → Int32)) (qunder : (Nat → Int32)) (dmost : Int32) (dcho : (Nat → Int32)) (dbest : (Nat → Int32)) (dreach : (Nat → Int32)) (k : Int32) (rr : Int32) (dmost' : Int32) (dcho' : (Nat → Int32)) (dbest' : (Nat → Int32)) (dreach' : (Nat → Int32)) (hF : f_X7_deal psq ppa ppe pwo pkind pwsq pwhr qgone qmet qstill qdone qhour qworn qsquare qunder dmost dcho dbest dreach k = some (rr, dmost', dcho', dbest', dreach')) : CI l D cI cC cM yX7_deal wsX7_deal rm_X7_deal [.ref ax, .int k] [(ax, .inr (7, [.ref ay, .ref ar, .ref ap, .ref aq, .ref aj, .ref az, .ref ak, .ref ae, .ref ad])), (ap, .inr (2, [.int psq, .int ppa, .int ppe, .int pwo, .ref apk, .ref apq, .ref apr])), (apk, .inl (cI, 6, .inl pkind)), (apq, .inl (cI, 6, .inl pwsq)), (apr, .inl (cI, 6, .inl pwhr)), (aq, .inr (1, [.ref ap, .int qgone, .int qmet, .int qstill, .int qdone, .ref aqh, .ref aqw, .ref aqs, .ref aqu])), (aqh, .inl (cI, 6, .inl qhour)), (aqw, .inl (cI, 6, .inl qworn)), (aqs, .inl (cI, 5, .inl qsquare)), (aqu, .inl (cI, 5, .inl qunder)), (ad, .inr (0, [.ref adc, .ref adb, .ref adr, .int dmost])), (adc, .inl (cI, 5, .inl dcho)), (adb, .inl (cI, 5, .inl dbest)), (adr, .inl (cI, 6, .inl dreach))] [(ax, .inr (7, [.ref ay, .ref ar, .ref ap, .ref aq, .ref aj, .ref az, .ref ak, .ref ae, .ref ad])), (ap, .inr (2, [.int psq, .int ppa, .int ppe, .int pwo, .ref apk, .ref apq, .ref apr])), (apk, .inl (cI, 6, .inl pkind)), (apq, .inl (cI, 6, .inl pwsq)), (apr, .inl (cI, 6, .inl pwhr)), (aq, .inr (1, [.ref ap, .int qgone, .int qmet, .int qstill, .int qdone, .ref aqh, .ref aqw, .ref aqs, .ref aqu])), (aqh, .inl (cI, 6, .inl qhour)), (aqw, .inl (cI, 6, .inl qworn)), (aqs, .inl (cI, 5, .inl qsquare)), (aqu, .inl (cI, 5, .inl qunder)), (ad, .inr (0, [.ref adc, .ref adb, .ref adr, .int dmost'])), (adc, .inl (cI, 5, .inl dcho')), (adb, .inl (cI, 5, .inl dbest')), (adr, .inl (cI, 6, .inl dreach'))] rr := by
  refine CI.of (cc := cX7_deal) (nL := 2) (ret := (some .int)) (by decide) rfl (Nat.le_of_ble_eq_true rfl) ?_
  intro p e s m args below meth c A hC hP hD hS ls hl
  obtain ⟨hx, hb, hml, hown, hts, hr, hlk, hG, hA⟩ := id hC
  have hown : s.vm.findClass RX7 = some m.cls := hown
  have hK := hG.1
  have hl : lv_has ls 2 [(0, .ref ax), (1, .int k)] := hl
  have k_f64 := hts (.fieldLink RX7 64 "ParasolHours" "dealt" "LParasolHours$Deal;") (List.mem_of_getElem? (i := 2) rfl)
  have k_f35 := hts (.fieldLink RX7 35 "ParasolHours" "now" "LParasolHours$Moment;") (List.mem_of_getElem? (i := 3) rfl)
  have k_f223 := hts (.fieldLink RX7 223 "ParasolHours$Deal" "most" "I") (List.mem_of_getElem? (i := 4) rfl)
  have k_f26 := hts (.fieldLink RX7 26 "ParasolHours" "plan" "LParasolHours$Plan;") (List.mem_of_getElem? (i := 1) rfl)
  have iX0 : ∀ w ∈ wsX00, w ∈ wsX7_deal := by decide +kernel
  have iX7 : ∀ w ∈ wsX70, w ∈ wsX7_deal := by decide +kernel
  obtain ⟨Q, hQ⟩ : ∃ Q, Q = MQ below (QI D [(ax, .inr (7, [.ref ay, .ref ar, .ref ap, .ref aq, .ref aj, .ref az, .ref ak, .ref ae, .ref ad])), (ap, .inr (2, [.int psq, .int ppa, .int ppe, .int pwo, .ref apk, .ref apq, .ref apr])), (apk, .inl (cI, 6, .inl pkind)), (apq, .inl (cI, 6, .inl pwsq)), (apr, .inl (cI, 6, .inl pwhr)), (aq, .inr (1, [.ref ap, .int qgone, .int qmet, .int qstill, .int qdone, .ref aqh, .ref aqw, .ref aqs, .ref aqu])), (aqh, .inl (cI, 6, .inl qhour)), (aqw, .inl (cI, 6, .inl qworn)), (aqs, .inl (cI, 5, .inl qsquare)), (aqu, .inl (cI, 5, .inl qunder)), (ad, .inr (0, [.ref adc, .ref adb, .ref adr, .int dmost'])), (adc, .inl (cI, 5, .inl dcho')), (adb, .inl (cI, 5, .inl dbest')), (adr, .inl (cI, 6, .inl dreach'))] rr A) args s 0 0 A := ⟨_, rfl⟩
  rw [← hQ]
  unfold f_X7_deal at hF
  refine lv_iload_n hx hb dX7_deal_0 rfl (lv_at hl 1 rfl) ?_
  refine lv_iconst (v := (-1 : Int32)) hx hb dX7_deal_1 (by decide) ?_
  refine lv_icmp_eq (tgt := 18) hx hb dX7_deal_2 (by decide) (fun c1 => ?_) (fun c1 => ?_)
  · have hF := op_pos c1 hF
    refine lv_aload_n hx hb dX7_deal_18 rfl (lv_at hl 0 rfl) ?_
    refine va_get (D := D) (ci := 7) (v := .ref ad) (C := RX7) (T := TX7) (N := 9) hx hb hts iX7 hown hK hP 0 rfl rfl 8 (by decide) k_f64 (fun _ h9 => h9) rfl dX7_deal_19 ?_
    refine lv_aload_n hx hb dX7_deal_22 rfl (lv_at hl 0 rfl) ?_
    refine va_get (D := D) (ci := 7) (v := .ref aq) (C := RX7) (T := TX7) (N := 9) hx hb hts iX7 hown hK hP 0 rfl rfl 3 (by decide) k_f35 (fun _ h9 => h9) rfl dX7_deal_23 ?_
    obtain ⟨⟨dmost_2, dcho_3, dbest_4, dreach_5⟩, hb6, hF⟩ := op_bind hF
    refine xVv (As := [.ref aq]) (rest := []) hC hP hD hS [10, 11, 12, 13, 5, 6, 7, 8, 9, 1, 2, 3, 4] (c_X0_findBest l D cI cC cM ad adc adb adr aq aqh aqw aqs aqu ap apk apq apr dmost dcho dbest dreach qgone qmet qstill qdone qhour qworn qsquare qunder psq ppa ppe pwo pkind pwsq pwhr dmost_2 dcho_3 dbest_4 dreach_5 hb6) (cwV 1 hts gX7_deal_X0_findBest rfl rfl rfl ⟨rfl, pd_X0_findBest⟩ ⟨Nat.le_of_ble_eq_true rfl, Nat.le_of_ble_eq_true rfl⟩) rfl rfl rfl 10 0 rfl rfl rfl rfl hl.1 rfl (Nat.le_of_ble_eq_true rfl) dX7_deal_26 ⟨Nat.zero_le _, Nat.zero_le _⟩ (fun H locs hP hD hS => ?_)
    have hP : va_P D vwCl [(ax, .inr (7, [.ref ay, .ref ar, .ref ap, .ref aq, .ref aj, .ref az, .ref ak, .ref ae, .ref ad])), (ap, .inr (2, [.int psq, .int ppa, .int ppe, .int pwo, .ref apk, .ref apq, .ref apr])), (apk, .inl (cI, 6, .inl pkind)), (apq, .inl (cI, 6, .inl pwsq)), (apr, .inl (cI, 6, .inl pwhr)), (aq, .inr (1, [.ref ap, .int qgone, .int qmet, .int qstill, .int qdone, .ref aqh, .ref aqw, .ref aqs, .ref aqu])), (aqh, .inl (cI, 6, .inl qhour)), (aqw, .inl (cI, 6, .inl qworn)), (aqs, .inl (cI, 5, .inl qsquare)), (aqu, .inl (cI, 5, .inl qunder)), (ad, .inr (0, [.ref adc, .ref adb, .ref adr, .int dmost_2])), (adc, .inl (cI, 5, .inl dcho_3)), (adb, .inl (cI, 5, .inl dbest_4)), (adr, .inl (cI, 6, .inl dreach_5))] H := hP
    have hD : va_D A [(ax, .inr (7, [.ref ay, .ref ar, .ref ap, .ref aq, .ref aj, .ref az, .ref ak, .ref ae, .ref ad])), (ap, .inr (2, [.int psq, .int ppa, .int ppe, .int pwo, .ref apk, .ref apq, .ref apr])), (apk, .inl (cI, 6, .inl pkind)), (apq, .inl (cI, 6, .inl pwsq)), (apr, .inl (cI, 6, .inl pwhr)), (aq, .inr (1, [.ref ap, .int qgone, .int qmet, .int qstill, .int qdone, .ref aqh, .ref aqw, .ref aqs, .ref aqu])), (aqh, .inl (cI, 6, .inl qhour)), (aqw, .inl (cI, 6, .inl qworn)), (aqs, .inl (cI, 5, .inl qsquare)), (aqu, .inl (cI, 5, .inl qunder)), (ad, .inr (0, [.ref adc, .ref adb, .ref adr, .int dmost_2])), (adc, .inl (cI, 5, .inl dcho_3)), (adb, .inl (cI, 5, .inl dbest_4)), (adr, .inl (cI, 6, .inl dreach_5))] := hD
    refine lv_iload_n hx hb dX7_deal_29 rfl (lv_at hl 1 rfl) ?_
    refine lv_iconst (v := (-1 : Int32)) hx hb dX7_deal_30 (by decide) ?_
    refine lv_icmp_ne (tgt := 44) hx hb dX7_deal_31 (by decide) (fun c => absurd c1 c) (fun _ => ?_)
    refine lv_aload_n hx hb dX7_deal_34 rfl (lv_at hl 0 rfl) ?_
    refine va_get (D := D) (ci := 7) (v := .ref ad) (C := RX7) (T := TX7) (N := 9) hx hb hts iX7 hown hK hP 0 rfl rfl 8 (by decide) k_f64 (fun _ h9 => h9) rfl dX7_deal_35 ?_
    refine va_get (D := D) (ci := 0) (v := .int dmost_2) (C := RX0) (T := TX0) (N := 4) hx hb hts iX0 hown hK hP 10 rfl rfl 3 (by decide) k_f223 (fun _ h9 => h9) rfl dX7_deal_38 ?_
    refine lv_goto (tgt := 52) hx hb dX7_deal_41 (by decide) ?_
    cases hF
    rw [hQ]
    exact xri hC hP hS dX7_deal_52
  · have hF := op_neg c1 hF
    refine lv_aload_n hx hb dX7_deal_5 rfl (lv_at hl 0 rfl) ?_
    refine va_get (D := D) (ci := 7) (v := .ref ap) (C := RX7) (T := TX7) (N := 9) hx hb hts iX7 hown hK hP 0 rfl rfl 2 (by decide) k_f26 (fun _ h9 => h9) rfl dX7_deal_6 ?_
    refine lv_iload_n hx hb dX7_deal_9 rfl (lv_at hl 1 rfl) ?_
    obtain ⟨r7, hb8, hF⟩ := op_bind hF
    refine xVr (As := [.int k]) (rest := []) hC hP hD hS [1, 2, 3, 4] (c_X2_hasPerson l D cI cC cM ap apk apq apr psq ppa ppe pwo pkind pwsq pwhr k r7 hb8) (cwV 1 hts gX7_deal_X2_hasPerson rfl rfl rfl ⟨rfl, pd_X2_hasPerson⟩ ⟨Nat.le_of_ble_eq_true rfl, Nat.le_of_ble_eq_true rfl⟩) rfl rfl 1 2 rfl rfl rfl rfl hl.1 rfl (Nat.le_of_ble_eq_true rfl) dX7_deal_10 ⟨Nat.zero_le _, Nat.zero_le _⟩ (fun H locs hP hS => ?_)
    refine lv_if_ne (tgt := 18) hx hb dX7_deal_13 (by decide) (fun c9 => ?_) (fun c9 => ?_)
    · have hF := op_neg c9 hF
      refine lv_aload_n hx hb dX7_deal_18 rfl (lv_at hl 0 rfl) ?_
      refine va_get (D := D) (ci := 7) (v := .ref ad) (C := RX7) (T := TX7) (N := 9) hx hb hts iX7 hown hK hP 0 rfl rfl 8 (by decide) k_f64 (fun _ h9 => h9) rfl dX7_deal_19 ?_
      refine lv_aload_n hx hb dX7_deal_22 rfl (lv_at hl 0 rfl) ?_
      refine va_get (D := D) (ci := 7) (v := .ref aq) (C := RX7) (T := TX7) (N := 9) hx hb hts iX7 hown hK hP 0 rfl rfl 3 (by decide) k_f35 (fun _ h9 => h9) rfl dX7_deal_23 ?_
      obtain ⟨⟨dmost_10, dcho_11, dbest_12, dreach_13⟩, hb14, hF⟩ := op_bind hF
      refine xVv (As := [.ref aq]) (rest := []) hC hP hD hS [10, 11, 12, 13, 5, 6, 7, 8, 9, 1, 2, 3, 4] (c_X0_findBest l D cI cC cM ad adc adb adr aq aqh aqw aqs aqu ap apk apq apr dmost dcho dbest dreach qgone qmet qstill qdone qhour qworn qsquare qunder psq ppa ppe pwo pkind pwsq pwhr dmost_10 dcho_11 dbest_12 dreach_13 hb14) (cwV 1 hts gX7_deal_X0_findBest rfl rfl rfl ⟨rfl, pd_X0_findBest⟩ ⟨Nat.le_of_ble_eq_true rfl, Nat.le_of_ble_eq_true rfl⟩) rfl rfl rfl 10 0 rfl rfl rfl rfl hl.1 rfl (Nat.le_of_ble_eq_true rfl) dX7_deal_26 ⟨Nat.zero_le _, Nat.zero_le _⟩ (fun H locs hP hD hS => ?_)
      have hP : va_P D vwCl [(ax, .inr (7, [.ref ay, .ref ar, .ref ap, .ref aq, .ref aj, .ref az, .ref ak, .ref ae, .ref ad])), (ap, .inr (2, [.int psq, .int ppa, .int ppe, .int pwo, .ref apk, .ref apq, .ref apr])), (apk, .inl (cI, 6, .inl pkind)), (apq, .inl (cI, 6, .inl pwsq)), (apr, .inl (cI, 6, .inl pwhr)), (aq, .inr (1, [.ref ap, .int qgone, .int qmet, .int qstill, .int qdone, .ref aqh, .ref aqw, .ref aqs, .ref aqu])), (aqh, .inl (cI, 6, .inl qhour)), (aqw, .inl (cI, 6, .inl qworn)), (aqs, .inl (cI, 5, .inl qsquare)), (aqu, .inl (cI, 5, .inl qunder)), (ad, .inr (0, [.ref adc, .ref adb, .ref adr, .int dmost_10])), (adc, .inl (cI, 5, .inl dcho_11)), (adb, .inl (cI, 5, .inl dbest_12)), (adr, .inl (cI, 6, .inl dreach_13))] H := hP
      have hD : va_D A [(ax, .inr (7, [.ref ay, .ref ar, .ref ap, .ref aq, .ref aj, .ref az, .ref ak, .ref ae, .ref ad])), (ap, .inr (2, [.int psq, .int ppa, .int ppe, .int pwo, .ref apk, .ref apq, .ref apr])), (apk, .inl (cI, 6, .inl pkind)), (apq, .inl (cI, 6, .inl pwsq)), (apr, .inl (cI, 6, .inl pwhr)), (aq, .inr (1, [.ref ap, .int qgone, .int qmet, .int qstill, .int qdone, .ref aqh, .ref aqw, .ref aqs, .ref aqu])), (aqh, .inl (cI, 6, .inl qhour)), (aqw, .inl (cI, 6, .inl qworn)), (aqs, .inl (cI, 5, .inl qsquare)), (aqu, .inl (cI, 5, .inl qunder)), (ad, .inr (0, [.ref adc, .ref adb, .ref adr, .int dmost_10])), (adc, .inl (cI, 5, .inl dcho_11)), (adb, .inl (cI, 5, .inl dbest_12)), (adr, .inl (cI, 6, .inl dreach_13))] := hD
      refine lv_iload_n hx hb dX7_deal_29 rfl (lv_at hl 1 rfl) ?_
      refine lv_iconst (v := (-1 : Int32)) hx hb dX7_deal_30 (by decide) ?_
      refine lv_icmp_ne (tgt := 44) hx hb dX7_deal_31 (by decide) (fun _ => ?_) (fun c => absurd c c1)
      refine lv_aload_n hx hb dX7_deal_44 rfl (lv_at hl 0 rfl) ?_
      refine va_get (D := D) (ci := 7) (v := .ref ad) (C := RX7) (T := TX7) (N := 9) hx hb hts iX7 hown hK hP 0 rfl rfl 8 (by decide) k_f64 (fun _ h9 => h9) rfl dX7_deal_45 ?_
      refine lv_iload_n hx hb dX7_deal_48 rfl (lv_at hl 1 rfl) ?_
      obtain ⟨r15, hb16, hF⟩ := op_bind hF
      refine xVr (As := [.int k]) (rest := []) hC hP hD hS [10, 11, 12, 13] (c_X0_bestOf l D cI cC cM ad adc adb adr dmost_10 dcho_11 dbest_12 dreach_13 k r15 hb16) (cwV 1 hts gX7_deal_X0_bestOf rfl rfl rfl ⟨rfl, pd_X0_bestOf⟩ ⟨Nat.le_of_ble_eq_true rfl, Nat.le_of_ble_eq_true rfl⟩) rfl rfl 10 0 rfl rfl rfl rfl hl.1 rfl (Nat.le_of_ble_eq_true rfl) dX7_deal_49 ⟨Nat.zero_le _, Nat.zero_le _⟩ (fun H locs hP hS => ?_)
      cases hF
      rw [hQ]
      exact xri hC hP hS dX7_deal_52
    · have hF := op_pos c9 hF
      refine lv_iconst (v := (-1 : Int32)) hx hb dX7_deal_16 (by decide) ?_
      cases hF
      rw [hQ]
      exact xri hC hP hS dX7_deal_17

def f_X7_make_L14 (ppa : Int32) (qhour : (Nat → Int32)) (h : Int32) (k14 : Int32 → Int32 → Option Int32) : Nat → Int32 → Int32 → Option Int32
  | 0, _, _ => none
  | nf14 + 1, v4, v5 => (if ((1 : Int32) <<< (ppa &&& 31)) ≤ v5 then (k14 v4 v5) else (if v4 = (-4 : Int32) then (Option.bind (f_X1_sumOfHours qhour ppa v5) fun r8 => (if (jrem r8 (24 : Int32)) = h then (f_X7_make_L14 ppa qhour h k14 nf14 v5 (v5 + (1 : Int32))) else (f_X7_make_L14 ppa qhour h k14 nf14 v4 (v5 + (1 : Int32))))) else (Option.bind (f_J6_bitCount_0f7a4 v5) fun r11 => (Option.bind (f_J6_bitCount_0f7a4 v4) fun r13 => (if r13 ≤ r11 then (f_X7_make_L14 ppa qhour h k14 nf14 v4 (v5 + (1 : Int32))) else (Option.bind (f_X1_sumOfHours qhour ppa v5) fun r16 => (if (jrem r16 (24 : Int32)) = h then (f_X7_make_L14 ppa qhour h k14 nf14 v5 (v5 + (1 : Int32))) else (f_X7_make_L14 ppa qhour h k14 nf14 v4 (v5 + (1 : Int32))))))))))
theorem f_X7_make_L14_0 (ppa : Int32) (qhour : (Nat → Int32)) (h : Int32) (k14 : Int32 → Int32 → Option Int32) (v4 : Int32) (v5 : Int32) : f_X7_make_L14 ppa qhour h k14 0 v4 v5 = none := rfl
theorem f_X7_make_L14_s (ppa : Int32) (qhour : (Nat → Int32)) (h : Int32) (k14 : Int32 → Int32 → Option Int32) (nf14 : Nat) (v4 : Int32) (v5 : Int32) : f_X7_make_L14 ppa qhour h k14 (nf14 + 1) v4 v5 = (if ((1 : Int32) <<< (ppa &&& 31)) ≤ v5 then (k14 v4 v5) else (if v4 = (-4 : Int32) then (Option.bind (f_X1_sumOfHours qhour ppa v5) fun r8 => (if (jrem r8 (24 : Int32)) = h then (f_X7_make_L14 ppa qhour h k14 nf14 v5 (v5 + (1 : Int32))) else (f_X7_make_L14 ppa qhour h k14 nf14 v4 (v5 + (1 : Int32))))) else (Option.bind (f_J6_bitCount_0f7a4 v5) fun r11 => (Option.bind (f_J6_bitCount_0f7a4 v4) fun r13 => (if r13 ≤ r11 then (f_X7_make_L14 ppa qhour h k14 nf14 v4 (v5 + (1 : Int32))) else (Option.bind (f_X1_sumOfHours qhour ppa v5) fun r16 => (if (jrem r16 (24 : Int32)) = h then (f_X7_make_L14 ppa qhour h k14 nf14 v5 (v5 + (1 : Int32))) else (f_X7_make_L14 ppa qhour h k14 nf14 v4 (v5 + (1 : Int32)))))))))) := rfl

def f_X7_make (ppa : Int32) (qhour : (Nat → Int32)) (h : Int32) : Option Int32 := (Option.bind (f_X7_isHour h) fun r1 => (if r1 = 0 then (some (-1 : Int32)) else (f_X7_make_L14 ppa qhour h (fun (v4 : Int32) (v5 : Int32) => (some v4)) 20000 (-4 : Int32) (1 : Int32))))

def rm_X7_make : Room := { frames := 3, cells := 0, slots := 0, locals := 65 }

theorem pd_X7_make : yX7_make.cls ≠ "java/lang/invoke/MethodHandle" ∧ yX7_make.cls ≠ "java/lang/invoke/VarHandle" ∧ (parseMethodDescriptor yX7_make.desc).map (fun d => d.parameters.length) = some 1 := by decide +kernel

set_option maxHeartbeats 4000000 in
set_option maxRecDepth 100000 in
theorem c_X7_make (l : Launch) (D : va_G) (cI cC cM : ClassId) (ax ap apk apq apr aq aqh aqw aqs aqu ay ar aj az ak ae ad : Nat) (psq : Int32) (ppa : Int32) (ppe : Int32) (pwo : Int32) (pkind : (Nat → Int32)) (pwsq : (Nat → Int32)) (pwhr : (Nat → Int32)) (qgone : Int32) (qmet : Int32) (qstill : Int32) (qdone : Int32) (qhour : (Nat → Int32)) (qworn : (Nat → Int32)) (qsquare : (Nat → Int32)) (qunder : (Nat → Int32)) (h : Int32) (rr : Int32) (hF : f_X7_make ppa qhour h = some rr) : CI l D cI cC cM yX7_make wsX7_make rm_X7_make [.ref ax, .int h] [(ax, .inr (7, [.ref ay, .ref ar, .ref ap, .ref aq, .ref aj, .ref az, .ref ak, .ref ae, .ref ad])), (ap, .inr (2, [.int psq, .int ppa, .int ppe, .int pwo, .ref apk, .ref apq, .ref apr])), (apk, .inl (cI, 6, .inl pkind)), (apq, .inl (cI, 6, .inl pwsq)), (apr, .inl (cI, 6, .inl pwhr)), (aq, .inr (1, [.ref ap, .int qgone, .int qmet, .int qstill, .int qdone, .ref aqh, .ref aqw, .ref aqs, .ref aqu])), (aqh, .inl (cI, 6, .inl qhour)), (aqw, .inl (cI, 6, .inl qworn)), (aqs, .inl (cI, 5, .inl qsquare)), (aqu, .inl (cI, 5, .inl qunder))] [(ax, .inr (7, [.ref ay, .ref ar, .ref ap, .ref aq, .ref aj, .ref az, .ref ak, .ref ae, .ref ad])), (ap, .inr (2, [.int psq, .int ppa, .int ppe, .int pwo, .ref apk, .ref apq, .ref apr])), (apk, .inl (cI, 6, .inl pkind)), (apq, .inl (cI, 6, .inl pwsq)), (apr, .inl (cI, 6, .inl pwhr)), (aq, .inr (1, [.ref ap, .int qgone, .int qmet, .int qstill, .int qdone, .ref aqh, .ref aqw, .ref aqs, .ref aqu])), (aqh, .inl (cI, 6, .inl qhour)), (aqw, .inl (cI, 6, .inl qworn)), (aqs, .inl (cI, 5, .inl qsquare)), (aqu, .inl (cI, 5, .inl qunder))] rr := by
  refine CI.of (cc := cX7_make) (nL := 5) (ret := (some .int)) (by decide) rfl (Nat.le_of_ble_eq_true rfl) ?_
  intro p e s m args below meth c A hC hP hD hS ls hl
  obtain ⟨hx, hb, hml, hown, hts, hr, hlk, hG, hA⟩ := id hC
  have hown : s.vm.findClass RX7 = some m.cls := hown
  have hK := hG.1
  have hl : lv_has ls 5 [(0, .ref ax), (1, .int h)] := hl
  have k_f26 := hts (.fieldLink RX7 26 "ParasolHours" "plan" "LParasolHours$Plan;") (List.mem_of_getElem? (i := 1) rfl)
  have k_f102 := hts (.fieldLink RX7 102 "ParasolHours$Plan" "parasols" "I") (List.mem_of_getElem? (i := 2) rfl)
  have k_f35 := hts (.fieldLink RX7 35 "ParasolHours" "now" "LParasolHours$Moment;") (List.mem_of_getElem? (i := 3) rfl)
  have iX2 : ∀ w ∈ wsX20, w ∈ wsX7_make := by decide +kernel
  have iX7 : ∀ w ∈ wsX70, w ∈ wsX7_make := by decide +kernel
  obtain ⟨Q, hQ⟩ : ∃ Q, Q = MQ below (QI D [(ax, .inr (7, [.ref ay, .ref ar, .ref ap, .ref aq, .ref aj, .ref az, .ref ak, .ref ae, .ref ad])), (ap, .inr (2, [.int psq, .int ppa, .int ppe, .int pwo, .ref apk, .ref apq, .ref apr])), (apk, .inl (cI, 6, .inl pkind)), (apq, .inl (cI, 6, .inl pwsq)), (apr, .inl (cI, 6, .inl pwhr)), (aq, .inr (1, [.ref ap, .int qgone, .int qmet, .int qstill, .int qdone, .ref aqh, .ref aqw, .ref aqs, .ref aqu])), (aqh, .inl (cI, 6, .inl qhour)), (aqw, .inl (cI, 6, .inl qworn)), (aqs, .inl (cI, 5, .inl qsquare)), (aqu, .inl (cI, 5, .inl qunder))] rr A) args s 0 0 A := ⟨_, rfl⟩
  rw [← hQ]
  unfold f_X7_make at hF
  refine lv_iload_n hx hb dX7_make_0 rfl (lv_at hl 1 rfl) ?_
  obtain ⟨r1, hb2, hF⟩ := op_bind hF
  refine xSr (As := [.int h]) (rest := []) hC hP hD hS [] (c_X7_isHour l D cI cC cM h r1 hb2) (va_cwS 1 hts gX7_make_X7_isHour rfl rfl rfl pd_X7_isHour ⟨Nat.le_of_ble_eq_true rfl, Nat.le_of_ble_eq_true rfl⟩) rfl rfl rfl hl.1 rfl (Nat.le_of_ble_eq_true rfl) dX7_make_1 ⟨Nat.zero_le _, Nat.zero_le _⟩ (fun H locs hP hS => ?_)
  refine lv_if_ne (tgt := 9) hx hb dX7_make_4 (by decide) (fun c3 => ?_) (fun c3 => ?_)
  · have hF := op_neg c3 hF
    refine lv_bipush (v := (-4 : Int32)) hx hb dX7_make_9 (by decide) ?_
    refine lv_istore_n (lv' := [(2, .int (-4 : Int32)), (0, .ref ax), (1, .int h)]) hx hb dX7_make_11 rfl hl (by decide) rfl (fun ls hl => ?_)
    refine lv_iconst (v := (1 : Int32)) hx hb dX7_make_12 (by decide) ?_
    refine lv_istore_n (lv' := [(3, .int (1 : Int32)), (2, .int (-4 : Int32)), (0, .ref ax), (1, .int h)]) hx hb dX7_make_13 rfl hl (by decide) rfl (fun ls hl => ?_)
    have hL14 : ∀ (k14 : Int32 → Int32 → Option Int32), (∀ (v4 : Int32) (v5 : Int32) (H : Heap) (locs : List Loc), va_P D vwCl [(ax, .inr (7, [.ref ay, .ref ar, .ref ap, .ref aq, .ref aj, .ref az, .ref ak, .ref ae, .ref ad])), (ap, .inr (2, [.int psq, .int ppa, .int ppe, .int pwo, .ref apk, .ref apq, .ref apr])), (apk, .inl (cI, 6, .inl pkind)), (apq, .inl (cI, 6, .inl pwsq)), (apr, .inl (cI, 6, .inl pwhr)), (aq, .inr (1, [.ref ap, .int qgone, .int qmet, .int qstill, .int qdone, .ref aqh, .ref aqw, .ref aqs, .ref aqu])), (aqh, .inl (cI, 6, .inl qhour)), (aqw, .inl (cI, 6, .inl qworn)), (aqs, .inl (cI, 5, .inl qsquare)), (aqu, .inl (cI, 5, .inl qunder))] H → va_D A [(ax, .inr (7, [.ref ay, .ref ar, .ref ap, .ref aq, .ref aj, .ref az, .ref ak, .ref ae, .ref ad])), (ap, .inr (2, [.int psq, .int ppa, .int ppe, .int pwo, .ref apk, .ref apq, .ref apr])), (apk, .inl (cI, 6, .inl pkind)), (apq, .inl (cI, 6, .inl pwsq)), (apr, .inl (cI, 6, .inl pwhr)), (aq, .inr (1, [.ref ap, .int qgone, .int qmet, .int qstill, .int qdone, .ref aqh, .ref aqw, .ref aqs, .ref aqu])), (aqh, .inl (cI, 6, .inl qhour)), (aqw, .inl (cI, 6, .inl qworn)), (aqs, .inl (cI, 5, .inl qsquare)), (aqu, .inl (cI, 5, .inl qunder))] → va_S A s.heap H locs → ∀ ls : Array Slot, lv_has ls 5 [(2, .int v4)] → k14 v4 v5 = some rr → W p l e rm_X7_make s m args below meth c H locs 0 0 Q (F0 m 79 ls [])) → ∀ (nf14 : Nat) (v4 : Int32) (v5 : Int32) (H : Heap) (locs : List Loc), va_P D vwCl [(ax, .inr (7, [.ref ay, .ref ar, .ref ap, .ref aq, .ref aj, .ref az, .ref ak, .ref ae, .ref ad])), (ap, .inr (2, [.int psq, .int ppa, .int ppe, .int pwo, .ref apk, .ref apq, .ref apr])), (apk, .inl (cI, 6, .inl pkind)), (apq, .inl (cI, 6, .inl pwsq)), (apr, .inl (cI, 6, .inl pwhr)), (aq, .inr (1, [.ref ap, .int qgone, .int qmet, .int qstill, .int qdone, .ref aqh, .ref aqw, .ref aqs, .ref aqu])), (aqh, .inl (cI, 6, .inl qhour)), (aqw, .inl (cI, 6, .inl qworn)), (aqs, .inl (cI, 5, .inl qsquare)), (aqu, .inl (cI, 5, .inl qunder))] H → va_D A [(ax, .inr (7, [.ref ay, .ref ar, .ref ap, .ref aq, .ref aj, .ref az, .ref ak, .ref ae, .ref ad])), (ap, .inr (2, [.int psq, .int ppa, .int ppe, .int pwo, .ref apk, .ref apq, .ref apr])), (apk, .inl (cI, 6, .inl pkind)), (apq, .inl (cI, 6, .inl pwsq)), (apr, .inl (cI, 6, .inl pwhr)), (aq, .inr (1, [.ref ap, .int qgone, .int qmet, .int qstill, .int qdone, .ref aqh, .ref aqw, .ref aqs, .ref aqu])), (aqh, .inl (cI, 6, .inl qhour)), (aqw, .inl (cI, 6, .inl qworn)), (aqs, .inl (cI, 5, .inl qsquare)), (aqu, .inl (cI, 5, .inl qunder))] → va_S A s.heap H locs → ∀ ls : Array Slot, lv_has ls 5 [(3, .int v5), (2, .int v4), (0, .ref ax), (1, .int h)] → f_X7_make_L14 ppa qhour h k14 nf14 v4 v5 = some rr → W p l e rm_X7_make s m args below meth c H locs 0 0 Q (F0 m 14 ls []) := by
      intro k14 hk14 nf14
      induction nf14 with
      | zero =>
        intro v4 v5 H locs hP hD hS ls hl hF
        rw [f_X7_make_L14_0] at hF
        cases hF
      | succ nf14 ih14 =>
        intro v4 v5 H locs hP hD hS ls hl hF
        rw [f_X7_make_L14_s] at hF
        refine lv_iload_n hx hb dX7_make_14 rfl (lv_at hl 0 rfl) ?_
        refine lv_iconst (v := (1 : Int32)) hx hb dX7_make_15 (by decide) ?_
        refine lv_aload_n hx hb dX7_make_16 rfl (lv_at hl 2 rfl) ?_
        refine va_get (D := D) (ci := 7) (v := .ref ap) (C := RX7) (T := TX7) (N := 9) hx hb hts iX7 hown hK hP 0 rfl rfl 2 (by decide) k_f26 (fun _ h9 => h9) rfl dX7_make_17 ?_
        refine va_get (D := D) (ci := 2) (v := .int ppa) (C := RX2) (T := TX2) (N := 7) hx hb hts iX2 hown hK hP 1 rfl rfl 1 (by decide) k_f102 (fun _ h9 => h9) rfl dX7_make_20 ?_
        refine lv_ishl hx hb dX7_make_23 ?_
        refine lv_icmp_ge (tgt := 79) hx hb dX7_make_24 (by decide) (fun c6 => ?_) (fun c6 => ?_)
        · have hF := op_pos c6 hF
          exact hk14 v4 v5 _ _ hP hD hS _ (lv_sub hl [1] rfl) hF
        · have hF := op_neg c6 hF
          refine lv_iload_n hx hb dX7_make_27 rfl (lv_at hl 1 rfl) ?_
          refine lv_bipush (v := (-4 : Int32)) hx hb dX7_make_28 (by decide) ?_
          refine lv_icmp_eq (tgt := 44) hx hb dX7_make_30 (by decide) (fun c7 => ?_) (fun c7 => ?_)
          · have hF := op_pos c7 hF
            refine lv_iconst (v := (1 : Int32)) hx hb dX7_make_44 (by decide) ?_
            refine lv_goto (tgt := 49) hx hb dX7_make_45 (by decide) ?_
            refine lv_istore (lv' := [(4, .int (1 : Int32)), (3, .int v5), (2, .int v4), (0, .ref ax), (1, .int h)]) hx hb dX7_make_49 hl (by decide) rfl (fun ls hl => ?_)
            refine lv_iload hx hb dX7_make_51 (lv_at hl 0 rfl) ?_
            refine lv_if_eq (tgt := 73) hx hb dX7_make_53 (by decide) (fun c => absurd c (by decide)) (fun _ => ?_)
            refine lv_aload_n hx hb dX7_make_56 rfl (lv_at hl 3 rfl) ?_
            refine va_get (D := D) (ci := 7) (v := .ref aq) (C := RX7) (T := TX7) (N := 9) hx hb hts iX7 hown hK hP 0 rfl rfl 3 (by decide) k_f35 (fun _ h9 => h9) rfl dX7_make_57 ?_
            refine lv_iload_n hx hb dX7_make_60 rfl (lv_at hl 1 rfl) ?_
            obtain ⟨r8, hb9, hF⟩ := op_bind hF
            refine xVr (As := [.int v5]) (rest := []) hC hP hD hS [5, 6, 7, 8, 9, 1, 2, 3, 4] (c_X1_sumOfHours l D cI cC cM aq aqh aqw aqs aqu ap apk apq apr qgone qmet qstill qdone qhour qworn qsquare qunder psq ppa ppe pwo pkind pwsq pwhr v5 r8 hb9) (cwV 1 hts gX7_make_X1_sumOfHours rfl rfl rfl ⟨rfl, pd_X1_sumOfHours⟩ ⟨Nat.le_of_ble_eq_true rfl, Nat.le_of_ble_eq_true rfl⟩) rfl rfl 5 1 rfl rfl rfl rfl hl.1 rfl (Nat.le_of_ble_eq_true rfl) dX7_make_61 ⟨Nat.zero_le _, Nat.zero_le _⟩ (fun H locs hP hS => ?_)
            refine lv_bipush (v := (24 : Int32)) hx hb dX7_make_64 (by decide) ?_
            refine lv_irem hx hb dX7_make_66 (by decide) ?_
            refine lv_iload_n hx hb dX7_make_67 rfl (lv_at hl 4 rfl) ?_
            refine lv_icmp_ne (tgt := 73) hx hb dX7_make_68 (by decide) (fun c10 => ?_) (fun c10 => ?_)
            · have hF := op_neg c10 hF
              refine lv_iinc (v := (v5 + (1 : Int32))) (lv' := [(3, .int (v5 + (1 : Int32))), (4, .int (1 : Int32)), (2, .int v4), (0, .ref ax), (1, .int h)]) hx hb dX7_make_73 hl (k := 1) rfl (by first | rfl | decide) (by decide) rfl (fun ls hl => ?_)
              refine lv_goto (tgt := 14) hx hb dX7_make_76 (by decide) ?_
              exact ih14 v4 (v5 + (1 : Int32)) _ _ hP hD hS _ (lv_sub hl [0, 2, 3, 4] rfl) hF
            · have hF := op_pos c10 hF
              refine lv_iload_n hx hb dX7_make_71 rfl (lv_at hl 1 rfl) ?_
              refine lv_istore_n (lv' := [(2, .int v5), (4, .int (1 : Int32)), (3, .int v5), (0, .ref ax), (1, .int h)]) hx hb dX7_make_72 rfl hl (by decide) rfl (fun ls hl => ?_)
              refine lv_iinc (v := (v5 + (1 : Int32))) (lv' := [(3, .int (v5 + (1 : Int32))), (2, .int v5), (4, .int (1 : Int32)), (0, .ref ax), (1, .int h)]) hx hb dX7_make_73 hl (k := 2) rfl (by first | rfl | decide) (by decide) rfl (fun ls hl => ?_)
              refine lv_goto (tgt := 14) hx hb dX7_make_76 (by decide) ?_
              exact ih14 v5 (v5 + (1 : Int32)) _ _ hP hD hS _ (lv_sub hl [0, 1, 3, 4] rfl) hF
          · have hF := op_neg c7 hF
            refine lv_iload_n hx hb dX7_make_33 rfl (lv_at hl 0 rfl) ?_
            obtain ⟨r11, hb12, hF⟩ := op_bind hF
            refine xSr (As := [.int v5]) (rest := []) hC hP hD hS [] (c_J6_bitCount_0f7a4 l D cI cC cM v5 r11 hb12) (va_cwS 1 hts gX7_make_J6_bitCount_0f7a4 rfl rfl rfl pd_J6_bitCount_0f7a4 ⟨Nat.le_of_ble_eq_true rfl, Nat.le_of_ble_eq_true rfl⟩) rfl rfl rfl hl.1 rfl (Nat.le_of_ble_eq_true rfl) dX7_make_34 ⟨Nat.zero_le _, Nat.zero_le _⟩ (fun H locs hP hS => ?_)
            refine lv_iload_n hx hb dX7_make_37 rfl (lv_at hl 1 rfl) ?_
            obtain ⟨r13, hb14, hF⟩ := op_bind hF
            refine xSr (As := [.int v4]) (rest := [.int r11]) hC hP hD hS [] (c_J6_bitCount_0f7a4 l D cI cC cM v4 r13 hb14) (va_cwS 1 hts gX7_make_J6_bitCount_0f7a4 rfl rfl rfl pd_J6_bitCount_0f7a4 ⟨Nat.le_of_ble_eq_true rfl, Nat.le_of_ble_eq_true rfl⟩) rfl rfl rfl hl.1 rfl (Nat.le_of_ble_eq_true rfl) dX7_make_38 ⟨Nat.zero_le _, Nat.zero_le _⟩ (fun H locs hP hS => ?_)
            refine lv_icmp_ge (tgt := 48) hx hb dX7_make_41 (by decide) (fun c15 => ?_) (fun c15 => ?_)
            · have hF := op_pos c15 hF
              refine lv_iconst (v := (0 : Int32)) hx hb dX7_make_48 (by decide) ?_
              refine lv_istore (lv' := [(4, .int (0 : Int32)), (3, .int v5), (2, .int v4), (0, .ref ax), (1, .int h)]) hx hb dX7_make_49 hl (by decide) rfl (fun ls hl => ?_)
              refine lv_iload hx hb dX7_make_51 (lv_at hl 0 rfl) ?_
              refine lv_if_eq (tgt := 73) hx hb dX7_make_53 (by decide) (fun _ => ?_) (fun c => absurd (by decide) c)
              refine lv_iinc (v := (v5 + (1 : Int32))) (lv' := [(3, .int (v5 + (1 : Int32))), (4, .int (0 : Int32)), (2, .int v4), (0, .ref ax), (1, .int h)]) hx hb dX7_make_73 hl (k := 1) rfl (by first | rfl | decide) (by decide) rfl (fun ls hl => ?_)
              refine lv_goto (tgt := 14) hx hb dX7_make_76 (by decide) ?_
              exact ih14 v4 (v5 + (1 : Int32)) _ _ hP hD hS _ (lv_sub hl [0, 2, 3, 4] rfl) hF
            · have hF := op_neg c15 hF
              refine lv_iconst (v := (1 : Int32)) hx hb dX7_make_44 (by decide) ?_
              refine lv_goto (tgt := 49) hx hb dX7_make_45 (by decide) ?_
              refine lv_istore (lv' := [(4, .int (1 : Int32)), (3, .int v5), (2, .int v4), (0, .ref ax), (1, .int h)]) hx hb dX7_make_49 hl (by decide) rfl (fun ls hl => ?_)
              refine lv_iload hx hb dX7_make_51 (lv_at hl 0 rfl) ?_
              refine lv_if_eq (tgt := 73) hx hb dX7_make_53 (by decide) (fun c => absurd c (by decide)) (fun _ => ?_)
              refine lv_aload_n hx hb dX7_make_56 rfl (lv_at hl 3 rfl) ?_
              refine va_get (D := D) (ci := 7) (v := .ref aq) (C := RX7) (T := TX7) (N := 9) hx hb hts iX7 hown hK hP 0 rfl rfl 3 (by decide) k_f35 (fun _ h9 => h9) rfl dX7_make_57 ?_
              refine lv_iload_n hx hb dX7_make_60 rfl (lv_at hl 1 rfl) ?_
              obtain ⟨r16, hb17, hF⟩ := op_bind hF
              refine xVr (As := [.int v5]) (rest := []) hC hP hD hS [5, 6, 7, 8, 9, 1, 2, 3, 4] (c_X1_sumOfHours l D cI cC cM aq aqh aqw aqs aqu ap apk apq apr qgone qmet qstill qdone qhour qworn qsquare qunder psq ppa ppe pwo pkind pwsq pwhr v5 r16 hb17) (cwV 1 hts gX7_make_X1_sumOfHours rfl rfl rfl ⟨rfl, pd_X1_sumOfHours⟩ ⟨Nat.le_of_ble_eq_true rfl, Nat.le_of_ble_eq_true rfl⟩) rfl rfl 5 1 rfl rfl rfl rfl hl.1 rfl (Nat.le_of_ble_eq_true rfl) dX7_make_61 ⟨Nat.zero_le _, Nat.zero_le _⟩ (fun H locs hP hS => ?_)
              refine lv_bipush (v := (24 : Int32)) hx hb dX7_make_64 (by decide) ?_
              refine lv_irem hx hb dX7_make_66 (by decide) ?_
              refine lv_iload_n hx hb dX7_make_67 rfl (lv_at hl 4 rfl) ?_
              refine lv_icmp_ne (tgt := 73) hx hb dX7_make_68 (by decide) (fun c18 => ?_) (fun c18 => ?_)
              · have hF := op_neg c18 hF
                refine lv_iinc (v := (v5 + (1 : Int32))) (lv' := [(3, .int (v5 + (1 : Int32))), (4, .int (1 : Int32)), (2, .int v4), (0, .ref ax), (1, .int h)]) hx hb dX7_make_73 hl (k := 1) rfl (by first | rfl | decide) (by decide) rfl (fun ls hl => ?_)
                refine lv_goto (tgt := 14) hx hb dX7_make_76 (by decide) ?_
                exact ih14 v4 (v5 + (1 : Int32)) _ _ hP hD hS _ (lv_sub hl [0, 2, 3, 4] rfl) hF
              · have hF := op_pos c18 hF
                refine lv_iload_n hx hb dX7_make_71 rfl (lv_at hl 1 rfl) ?_
                refine lv_istore_n (lv' := [(2, .int v5), (4, .int (1 : Int32)), (3, .int v5), (0, .ref ax), (1, .int h)]) hx hb dX7_make_72 rfl hl (by decide) rfl (fun ls hl => ?_)
                refine lv_iinc (v := (v5 + (1 : Int32))) (lv' := [(3, .int (v5 + (1 : Int32))), (2, .int v5), (4, .int (1 : Int32)), (0, .ref ax), (1, .int h)]) hx hb dX7_make_73 hl (k := 2) rfl (by first | rfl | decide) (by decide) rfl (fun ls hl => ?_)
                refine lv_goto (tgt := 14) hx hb dX7_make_76 (by decide) ?_
                exact ih14 v5 (v5 + (1 : Int32)) _ _ hP hD hS _ (lv_sub hl [0, 1, 3, 4] rfl) hF
    refine hL14 _ (fun v4 v5 H locs hP hD hS ls hl hF => ?_) 20000 (-4 : Int32) (1 : Int32) _ _ hP hD hS _ (lv_sub hl [0, 1, 2, 3] rfl) hF
    refine lv_iload_n hx hb dX7_make_79 rfl (lv_at hl 0 rfl) ?_
    cases hF
    rw [hQ]
    exact xri hC hP hS dX7_make_80
  · have hF := op_pos c3 hF
    refine lv_iconst (v := (-1 : Int32)) hx hb dX7_make_7 (by decide) ?_
    cases hF
    rw [hQ]
    exact xri hC hP hS dX7_make_8

def f_X7_still (ppa : Int32) (ppe : Int32) (pwo : Int32) (pkind : (Nat → Int32)) (pwsq : (Nat → Int32)) (pwhr : (Nat → Int32)) (qgone : Int32) (qmet : Int32) (qstill : Int32) (qdone : Int32) (qhour : (Nat → Int32)) (qworn : (Nat → Int32)) (qsquare : (Nat → Int32)) (qunder : (Nat → Int32)) (jgone : Int32) (jmet : Int32) (jstill : Int32) (jdone : Int32) (jhour : (Nat → Int32)) (jworn : (Nat → Int32)) (jsquare : (Nat → Int32)) (junder : (Nat → Int32)) (n : Int32) : Option (Int32 × Int32 × Int32 × Int32 × Int32 × (Nat → Int32) × (Nat → Int32) × (Nat → Int32) × (Nat → Int32)) := (if n < 0 then (some ((-1 : Int32), jgone, jmet, jstill, jdone, jhour, jworn, jsquare, junder)) else (if n ≤ (48 : Int32) then (Option.bind (f_X1_copyFrom jhour jworn jsquare junder qgone qmet qstill qdone qhour qworn qsquare qunder) fun (qgone_3, qmet_4, qstill_5, qdone_6, qhour_7, qworn_8, qsquare_9, qunder_10) => (Option.bind (f_X1_goOn qgone_3 qmet_4 qstill_5 qdone_6 qhour_7 qworn_8 qsquare_9 qunder_10 ppa ppe pwo pkind pwsq pwhr n) fun (qgone_12, qmet_13, qstill_14, qdone_15, qhour_16, qworn_17) => (some (qstill_14, qgone_12, qmet_13, qstill_14, qdone_15, qhour_16, qworn_17, qsquare_9, qunder_10)))) else (some ((-1 : Int32), jgone, jmet, jstill, jdone, jhour, jworn, jsquare, junder))))

def rm_X7_still : Room := { frames := 6, cells := 0, slots := 0, locals := 133 }

theorem pd_X7_still : yX7_still.cls ≠ "java/lang/invoke/MethodHandle" ∧ yX7_still.cls ≠ "java/lang/invoke/VarHandle" ∧ (parseMethodDescriptor yX7_still.desc).map (fun d => d.parameters.length) = some 1 := by decide +kernel

set_option maxHeartbeats 4000000 in
set_option maxRecDepth 100000 in
theorem c_X7_still (l : Launch) (D : va_G) (cI cC cM : ClassId) (ax ap apk apq apr aq aqh aqw aqs aqu aj ajh ajw ajs aju ay ar az ak ae ad : Nat) (psq : Int32) (ppa : Int32) (ppe : Int32) (pwo : Int32) (pkind : (Nat → Int32)) (pwsq : (Nat → Int32)) (pwhr : (Nat → Int32)) (qgone : Int32) (qmet : Int32) (qstill : Int32) (qdone : Int32) (qhour : (Nat → Int32)) (qworn : (Nat → Int32)) (qsquare : (Nat → Int32)) (qunder : (Nat → Int32)) (jgone : Int32) (jmet : Int32) (jstill : Int32) (jdone : Int32) (jhour : (Nat → Int32)) (jworn : (Nat → Int32)) (jsquare : (Nat → Int32)) (junder : (Nat → Int32)) (n : Int32) (rr : Int32) (jgone' : Int32) (jmet' : Int32) (jstill' : Int32) (jdone' : Int32) (jhour' : (Nat → Int32)) (jworn' : (Nat → Int32)) (jsquare' : (Nat → Int32)) (junder' : (Nat → Int32)) (hF : f_X7_still ppa ppe pwo pkind pwsq pwhr qgone qmet qstill qdone qhour qworn qsquare qunder jgone jmet jstill jdone jhour jworn jsquare junder n = some (rr, jgone', jmet', jstill', jdone', jhour', jworn', jsquare', junder')) : CI l D cI cC cM yX7_still wsX7_still rm_X7_still [.ref ax, .int n] [(ax, .inr (7, [.ref ay, .ref ar, .ref ap, .ref aq, .ref aj, .ref az, .ref ak, .ref ae, .ref ad])), (ap, .inr (2, [.int psq, .int ppa, .int ppe, .int pwo, .ref apk, .ref apq, .ref apr])), (apk, .inl (cI, 6, .inl pkind)), (apq, .inl (cI, 6, .inl pwsq)), (apr, .inl (cI, 6, .inl pwhr)), (aq, .inr (1, [.ref ap, .int qgone, .int qmet, .int qstill, .int qdone, .ref aqh, .ref aqw, .ref aqs, .ref aqu])), (aqh, .inl (cI, 6, .inl qhour)), (aqw, .inl (cI, 6, .inl qworn)), (aqs, .inl (cI, 5, .inl qsquare)), (aqu, .inl (cI, 5, .inl qunder)), (aj, .inr (1, [.ref ap, .int jgone, .int jmet, .int jstill, .int jdone, .ref ajh, .ref ajw, .ref ajs, .ref aju])), (ajh, .inl (cI, 6, .inl jhour)), (ajw, .inl (cI, 6, .inl jworn)), (ajs, .inl (cI, 5, .inl jsquare)), (aju, .inl (cI, 5, .inl junder))] [(ax, .inr (7, [.ref ay, .ref ar, .ref ap, .ref aq, .ref aj, .ref az, .ref ak, .ref ae, .ref ad])), (ap, .inr (2, [.int psq, .int ppa, .int ppe, .int pwo, .ref apk, .ref apq, .ref apr])), (apk, .inl (cI, 6, .inl pkind)), (apq, .inl (cI, 6, .inl pwsq)), (apr, .inl (cI, 6, .inl pwhr)), (aq, .inr (1, [.ref ap, .int qgone, .int qmet, .int qstill, .int qdone, .ref aqh, .ref aqw, .ref aqs, .ref aqu])), (aqh, .inl (cI, 6, .inl qhour)), (aqw, .inl (cI, 6, .inl qworn)), (aqs, .inl (cI, 5, .inl qsquare)), (aqu, .inl (cI, 5, .inl qunder)), (aj, .inr (1, [.ref ap, .int jgone', .int jmet', .int jstill', .int jdone', .ref ajh, .ref ajw, .ref ajs, .ref aju])), (ajh, .inl (cI, 6, .inl jhour')), (ajw, .inl (cI, 6, .inl jworn')), (ajs, .inl (cI, 5, .inl jsquare')), (aju, .inl (cI, 5, .inl junder'))] rr := by
  refine CI.of (cc := cX7_still) (nL := 2) (ret := (some .int)) (by decide) rfl (Nat.le_of_ble_eq_true rfl) ?_
  intro p e s m args below meth c A hC hP hD hS ls hl
  obtain ⟨hx, hb, hml, hown, hts, hr, hlk, hG, hA⟩ := id hC
  have hown : s.vm.findClass RX7 = some m.cls := hown
  have hK := hG.1
  have hl : lv_has ls 2 [(0, .ref ax), (1, .int n)] := hl
  have k_f39 := hts (.fieldLink RX7 39 "ParasolHours" "trial" "LParasolHours$Moment;") (List.mem_of_getElem? (i := 1) rfl)
  have k_f35 := hts (.fieldLink RX7 35 "ParasolHours" "now" "LParasolHours$Moment;") (List.mem_of_getElem? (i := 2) rfl)
  have k_f240 := hts (.fieldLink RX7 240 "ParasolHours$Moment" "stillBits" "I") (List.mem_of_getElem? (i := 3) rfl)
  have iX1 : ∀ w ∈ wsX10, w ∈ wsX7_still := by decide +kernel
  have iX7 : ∀ w ∈ wsX70, w ∈ wsX7_still := by decide +kernel
  obtain ⟨Q, hQ⟩ : ∃ Q, Q = MQ below (QI D [(ax, .inr (7, [.ref ay, .ref ar, .ref ap, .ref aq, .ref aj, .ref az, .ref ak, .ref ae, .ref ad])), (ap, .inr (2, [.int psq, .int ppa, .int ppe, .int pwo, .ref apk, .ref apq, .ref apr])), (apk, .inl (cI, 6, .inl pkind)), (apq, .inl (cI, 6, .inl pwsq)), (apr, .inl (cI, 6, .inl pwhr)), (aq, .inr (1, [.ref ap, .int qgone, .int qmet, .int qstill, .int qdone, .ref aqh, .ref aqw, .ref aqs, .ref aqu])), (aqh, .inl (cI, 6, .inl qhour)), (aqw, .inl (cI, 6, .inl qworn)), (aqs, .inl (cI, 5, .inl qsquare)), (aqu, .inl (cI, 5, .inl qunder)), (aj, .inr (1, [.ref ap, .int jgone', .int jmet', .int jstill', .int jdone', .ref ajh, .ref ajw, .ref ajs, .ref aju])), (ajh, .inl (cI, 6, .inl jhour')), (ajw, .inl (cI, 6, .inl jworn')), (ajs, .inl (cI, 5, .inl jsquare')), (aju, .inl (cI, 5, .inl junder'))] rr A) args s 0 0 A := ⟨_, rfl⟩
  rw [← hQ]
  unfold f_X7_still at hF
  refine lv_iload_n hx hb dX7_still_0 rfl (lv_at hl 1 rfl) ?_
  refine lv_if_lt (tgt := 10) hx hb dX7_still_1 (by decide) (fun c1 => ?_) (fun c1 => ?_)
  · have hF := op_pos c1 hF
    refine lv_iconst (v := (-1 : Int32)) hx hb dX7_still_10 (by decide) ?_
    cases hF
    rw [hQ]
    exact xri hC hP hS dX7_still_11
  · have hF := op_neg c1 hF
    refine lv_iload_n hx hb dX7_still_4 rfl (lv_at hl 1 rfl) ?_
    refine lv_bipush (v := (48 : Int32)) hx hb dX7_still_5 (by decide) ?_
    refine lv_icmp_le (tgt := 12) hx hb dX7_still_7 (by decide) (fun c2 => ?_) (fun c2 => ?_)
    · have hF := op_pos c2 hF
      refine lv_aload_n hx hb dX7_still_12 rfl (lv_at hl 0 rfl) ?_
      refine va_get (D := D) (ci := 7) (v := .ref aj) (C := RX7) (T := TX7) (N := 9) hx hb hts iX7 hown hK hP 0 rfl rfl 4 (by decide) k_f39 (fun _ h9 => h9) rfl dX7_still_13 ?_
      refine lv_aload_n hx hb dX7_still_16 rfl (lv_at hl 0 rfl) ?_
      refine va_get (D := D) (ci := 7) (v := .ref aq) (C := RX7) (T := TX7) (N := 9) hx hb hts iX7 hown hK hP 0 rfl rfl 3 (by decide) k_f35 (fun _ h9 => h9) rfl dX7_still_17 ?_
      obtain ⟨⟨qgone_3, qmet_4, qstill_5, qdone_6, qhour_7, qworn_8, qsquare_9, qunder_10⟩, hb11, hF⟩ := op_bind hF
      refine zVv (ws' := [(ax, .inr (7, [.ref ay, .ref ar, .ref ap, .ref aq, .ref aj, .ref az, .ref ak, .ref ae, .ref ad])), (ap, .inr (2, [.int psq, .int ppa, .int ppe, .int pwo, .ref apk, .ref apq, .ref apr])), (apk, .inl (cI, 6, .inl pkind)), (apq, .inl (cI, 6, .inl pwsq)), (apr, .inl (cI, 6, .inl pwhr)), (aq, .inr (1, [.ref ap, .int qgone, .int qmet, .int qstill, .int qdone, .ref aqh, .ref aqw, .ref aqs, .ref aqu])), (aqh, .inl (cI, 6, .inl qhour)), (aqw, .inl (cI, 6, .inl qworn)), (aqs, .inl (cI, 5, .inl qsquare)), (aqu, .inl (cI, 5, .inl qunder)), (aj, .inr (1, [.ref ap, .int qgone_3, .int qmet_4, .int qstill_5, .int qdone_6, .ref ajh, .ref ajw, .ref ajs, .ref aju])), (ajh, .inl (cI, 6, .inl qhour_7)), (ajw, .inl (cI, 6, .inl qworn_8)), (ajs, .inl (cI, 5, .inl qsquare_9)), (aju, .inl (cI, 5, .inl qunder_10))]) (wr := [(ax, .inr (7, [.ref ay, .ref ar, .ref ap, .ref aq, .ref aj, .ref az, .ref ak, .ref ae, .ref ad])), (ap, .inr (2, [.int psq, .int ppa, .int ppe, .int pwo, .ref apk, .ref apq, .ref apr])), (apk, .inl (cI, 6, .inl pkind)), (apq, .inl (cI, 6, .inl pwsq)), (apr, .inl (cI, 6, .inl pwhr))]) (As := [.ref aq]) (rest := []) hC hP hD hS [10, 11, 12, 13, 14, 5, 6, 7, 8, 9] [0, 1, 2, 3, 4] (c_X1_copyFrom l D cI cC cM aj ajh ajw ajs aju aq aqh aqw aqs aqu ap ap jgone jmet jstill jdone jhour jworn jsquare junder qgone qmet qstill qdone qhour qworn qsquare qunder qgone_3 qmet_4 qstill_5 qdone_6 qhour_7 qworn_8 qsquare_9 qunder_10 hb11) (cwV 1 hts gX7_still_X1_copyFrom rfl rfl rfl ⟨rfl, pd_X1_copyFrom⟩ ⟨Nat.le_of_ble_eq_true rfl, Nat.le_of_ble_eq_true rfl⟩) 15 (by decide +kernel) rfl rfl rfl rfl rfl rfl 10 1 rfl rfl rfl rfl hl.1 rfl (Nat.le_of_ble_eq_true rfl) dX7_still_20 ⟨Nat.zero_le _, Nat.zero_le _⟩ (fun H locs hP hD hS => ?_)
      refine lv_aload_n hx hb dX7_still_23 rfl (lv_at hl 0 rfl) ?_
      refine va_get (D := D) (ci := 7) (v := .ref aj) (C := RX7) (T := TX7) (N := 9) hx hb hts iX7 hown hK hP 0 rfl rfl 4 (by decide) k_f39 (fun _ h9 => h9) rfl dX7_still_24 ?_
      refine lv_iload_n hx hb dX7_still_27 rfl (lv_at hl 1 rfl) ?_
      obtain ⟨⟨qgone_12, qmet_13, qstill_14, qdone_15, qhour_16, qworn_17⟩, hb18, hF⟩ := op_bind hF
      refine zVv (ws' := [(ax, .inr (7, [.ref ay, .ref ar, .ref ap, .ref aq, .ref aj, .ref az, .ref ak, .ref ae, .ref ad])), (ap, .inr (2, [.int psq, .int ppa, .int ppe, .int pwo, .ref apk, .ref apq, .ref apr])), (apk, .inl (cI, 6, .inl pkind)), (apq, .inl (cI, 6, .inl pwsq)), (apr, .inl (cI, 6, .inl pwhr)), (aq, .inr (1, [.ref ap, .int qgone, .int qmet, .int qstill, .int qdone, .ref aqh, .ref aqw, .ref aqs, .ref aqu])), (aqh, .inl (cI, 6, .inl qhour)), (aqw, .inl (cI, 6, .inl qworn)), (aqs, .inl (cI, 5, .inl qsquare)), (aqu, .inl (cI, 5, .inl qunder)), (aj, .inr (1, [.ref ap, .int qgone_12, .int qmet_13, .int qstill_14, .int qdone_15, .ref ajh, .ref ajw, .ref ajs, .ref aju])), (ajh, .inl (cI, 6, .inl qhour_16)), (ajw, .inl (cI, 6, .inl qworn_17)), (ajs, .inl (cI, 5, .inl qsquare_9)), (aju, .inl (cI, 5, .inl qunder_10))]) (wr := [(ax, .inr (7, [.ref ay, .ref ar, .ref ap, .ref aq, .ref aj, .ref az, .ref ak, .ref ae, .ref ad])), (aq, .inr (1, [.ref ap, .int qgone, .int qmet, .int qstill, .int qdone, .ref aqh, .ref aqw, .ref aqs, .ref aqu])), (aqh, .inl (cI, 6, .inl qhour)), (aqw, .inl (cI, 6, .inl qworn)), (aqs, .inl (cI, 5, .inl qsquare)), (aqu, .inl (cI, 5, .inl qunder))]) (As := [.int n]) (rest := []) hC hP hD hS [10, 11, 12, 13, 14, 1, 2, 3, 4] [0, 5, 6, 7, 8, 9] (c_X1_goOn l D cI cC cM aj ajh ajw ajs aju ap apk apq apr qgone_3 qmet_4 qstill_5 qdone_6 qhour_7 qworn_8 qsquare_9 qunder_10 psq ppa ppe pwo pkind pwsq pwhr n qgone_12 qmet_13 qstill_14 qdone_15 qhour_16 qworn_17 hb18) (cwV 1 hts gX7_still_X1_goOn rfl rfl rfl ⟨rfl, pd_X1_goOn⟩ ⟨Nat.le_of_ble_eq_true rfl, Nat.le_of_ble_eq_true rfl⟩) 15 (by decide +kernel) rfl rfl rfl rfl rfl rfl 10 1 rfl rfl rfl rfl hl.1 rfl (Nat.le_of_ble_eq_true rfl) dX7_still_28 ⟨Nat.zero_le _, Nat.zero_le _⟩ (fun H locs hP hD hS => ?_)
      refine lv_aload_n hx hb dX7_still_31 rfl (lv_at hl 0 rfl) ?_
      refine va_get (D := D) (ci := 7) (v := .ref aj) (C := RX7) (T := TX7) (N := 9) hx hb hts iX7 hown hK hP 0 rfl rfl 4 (by decide) k_f39 (fun _ h9 => h9) rfl dX7_still_32 ?_
      refine va_get (D := D) (ci := 1) (v := .int qstill_14) (C := RX1) (T := TX1) (N := 9) hx hb hts iX1 hown hK hP 10 rfl rfl 3 (by decide) k_f240 (fun _ h9 => h9) rfl dX7_still_35 ?_
      cases hF
      rw [hQ]
      exact xri hC hP hS dX7_still_38
    · have hF := op_neg c2 hF
      refine lv_iconst (v := (-1 : Int32)) hx hb dX7_still_10 (by decide) ?_
      cases hF
      rw [hQ]
      exact xri hC hP hS dX7_still_11

def f_X7_soonest_L46 (ppe : Int32) (pwhr : (Nat → Int32)) (w : Int32) (qgone : Int32) (qstill : Int32) (qhour : (Nat → Int32)) (qworn : (Nat → Int32)) (qunder : (Nat → Int32)) (pkind : (Nat → Int32)) (k46 : Int32 → Int32 → Int32 → Option Int32) : Nat → Int32 → Int32 → Int32 → Option Int32
  | 0, _, _, _ => none
  | nf46 + 1, v9, v10, v11 => (if ppe ≤ v11 then (k46 v9 v10 v11) else (Option.bind (f_X2_workHourOf pwhr w) fun r13 => (Option.bind (f_X1_hoursUntilWork qgone qstill qhour qworn qunder pkind v11 r13) fun r15 => (if r15 = (-4 : Int32) then (f_X7_soonest_L46 ppe pwhr w qgone qstill qhour qworn qunder pkind k46 nf46 v9 v10 (v11 + (1 : Int32))) else (if v9 = (-4 : Int32) then (f_X7_soonest_L46 ppe pwhr w qgone qstill qhour qworn qunder pkind k46 nf46 v11 r15 (v11 + (1 : Int32))) else (if v10 ≤ r15 then (f_X7_soonest_L46 ppe pwhr w qgone qstill qhour qworn qunder pkind k46 nf46 v9 v10 (v11 + (1 : Int32))) else (f_X7_soonest_L46 ppe pwhr w qgone qstill qhour qworn qunder pkind k46 nf46 v11 r15 (v11 + (1 : Int32)))))))))
theorem f_X7_soonest_L46_0 (ppe : Int32) (pwhr : (Nat → Int32)) (w : Int32) (qgone : Int32) (qstill : Int32) (qhour : (Nat → Int32)) (qworn : (Nat → Int32)) (qunder : (Nat → Int32)) (pkind : (Nat → Int32)) (k46 : Int32 → Int32 → Int32 → Option Int32) (v9 : Int32) (v10 : Int32) (v11 : Int32) : f_X7_soonest_L46 ppe pwhr w qgone qstill qhour qworn qunder pkind k46 0 v9 v10 v11 = none := rfl
theorem f_X7_soonest_L46_s (ppe : Int32) (pwhr : (Nat → Int32)) (w : Int32) (qgone : Int32) (qstill : Int32) (qhour : (Nat → Int32)) (qworn : (Nat → Int32)) (qunder : (Nat → Int32)) (pkind : (Nat → Int32)) (k46 : Int32 → Int32 → Int32 → Option Int32) (nf46 : Nat) (v9 : Int32) (v10 : Int32) (v11 : Int32) : f_X7_soonest_L46 ppe pwhr w qgone qstill qhour qworn qunder pkind k46 (nf46 + 1) v9 v10 v11 = (if ppe ≤ v11 then (k46 v9 v10 v11) else (Option.bind (f_X2_workHourOf pwhr w) fun r13 => (Option.bind (f_X1_hoursUntilWork qgone qstill qhour qworn qunder pkind v11 r13) fun r15 => (if r15 = (-4 : Int32) then (f_X7_soonest_L46 ppe pwhr w qgone qstill qhour qworn qunder pkind k46 nf46 v9 v10 (v11 + (1 : Int32))) else (if v9 = (-4 : Int32) then (f_X7_soonest_L46 ppe pwhr w qgone qstill qhour qworn qunder pkind k46 nf46 v11 r15 (v11 + (1 : Int32))) else (if v10 ≤ r15 then (f_X7_soonest_L46 ppe pwhr w qgone qstill qhour qworn qunder pkind k46 nf46 v9 v10 (v11 + (1 : Int32))) else (f_X7_soonest_L46 ppe pwhr w qgone qstill qhour qworn qunder pkind k46 nf46 v11 r15 (v11 + (1 : Int32))))))))) := rfl

def f_X7_soonest (ppe : Int32) (pwo : Int32) (pkind : (Nat → Int32)) (pwhr : (Nat → Int32)) (qgone : Int32) (qstill : Int32) (qdone : Int32) (qhour : (Nat → Int32)) (qworn : (Nat → Int32)) (qunder : (Nat → Int32)) (w : Int32) (i : Int32) : Option Int32 := (Option.bind (f_X2_hasWork pwo w) fun r1 => (if r1 = 0 then (some (-1 : Int32)) else (if i < 0 then (some (-1 : Int32)) else (if i ≤ (1 : Int32) then (Option.bind (f_X1_isDone qdone w) fun r6 => (if r6 = 0 then (f_X7_soonest_L46 ppe pwhr w qgone qstill qhour qworn qunder pkind (fun (v9 : Int32) (v10 : Int32) (v11 : Int32) => (if i = 0 then (some v9) else (some v10))) 20000 (-4 : Int32) (-4 : Int32) (0 : Int32)) else (some (-2 : Int32)))) else (some (-1 : Int32))))))

def rm_X7_soonest : Room := { frames := 6, cells := 0, slots := 0, locals := 136 }

theorem pd_X7_soonest : yX7_soonest.cls ≠ "java/lang/invoke/MethodHandle" ∧ yX7_soonest.cls ≠ "java/lang/invoke/VarHandle" ∧ (parseMethodDescriptor yX7_soonest.desc).map (fun d => d.parameters.length) = some 2 := by decide +kernel

set_option maxHeartbeats 4000000 in
set_option maxRecDepth 100000 in
theorem c_X7_soonest (l : Launch) (D : va_G) (cI cC cM : ClassId) (ax ap apk apq apr aq aqh aqw aqs aqu ay ar aj az ak ae ad : Nat) (psq : Int32) (ppa : Int32) (ppe : Int32) (pwo : Int32) (pkind : (Nat → Int32)) (pwsq : (Nat → Int32)) (pwhr : (Nat → Int32)) (qgone : Int32) (qmet : Int32) (qstill : Int32) (qdone : Int32) (qhour : (Nat → Int32)) (qworn : (Nat → Int32)) (qsquare : (Nat → Int32)) (qunder : (Nat → Int32)) (w : Int32) (i : Int32) (rr : Int32) (hF : f_X7_soonest ppe pwo pkind pwhr qgone qstill qdone qhour qworn qunder w i = some rr) : CI l D cI cC cM yX7_soonest wsX7_soonest rm_X7_soonest [.ref ax, .int w, .int i] [(ax, .inr (7, [.ref ay, .ref ar, .ref ap, .ref aq, .ref aj, .ref az, .ref ak, .ref ae, .ref ad])), (ap, .inr (2, [.int psq, .int ppa, .int ppe, .int pwo, .ref apk, .ref apq, .ref apr])), (apk, .inl (cI, 6, .inl pkind)), (apq, .inl (cI, 6, .inl pwsq)), (apr, .inl (cI, 6, .inl pwhr)), (aq, .inr (1, [.ref ap, .int qgone, .int qmet, .int qstill, .int qdone, .ref aqh, .ref aqw, .ref aqs, .ref aqu])), (aqh, .inl (cI, 6, .inl qhour)), (aqw, .inl (cI, 6, .inl qworn)), (aqs, .inl (cI, 5, .inl qsquare)), (aqu, .inl (cI, 5, .inl qunder))] [(ax, .inr (7, [.ref ay, .ref ar, .ref ap, .ref aq, .ref aj, .ref az, .ref ak, .ref ae, .ref ad])), (ap, .inr (2, [.int psq, .int ppa, .int ppe, .int pwo, .ref apk, .ref apq, .ref apr])), (apk, .inl (cI, 6, .inl pkind)), (apq, .inl (cI, 6, .inl pwsq)), (apr, .inl (cI, 6, .inl pwhr)), (aq, .inr (1, [.ref ap, .int qgone, .int qmet, .int qstill, .int qdone, .ref aqh, .ref aqw, .ref aqs, .ref aqu])), (aqh, .inl (cI, 6, .inl qhour)), (aqw, .inl (cI, 6, .inl qworn)), (aqs, .inl (cI, 5, .inl qsquare)), (aqu, .inl (cI, 5, .inl qunder))] rr := by
  refine CI.of (cc := cX7_soonest) (nL := 7) (ret := (some .int)) (by decide) rfl (Nat.le_of_ble_eq_true rfl) ?_
  intro p e s m args below meth c A hC hP hD hS ls hl
  obtain ⟨hx, hb, hml, hown, hts, hr, hlk, hG, hA⟩ := id hC
  have hown : s.vm.findClass RX7 = some m.cls := hown
  have hK := hG.1
  have hl : lv_has ls 7 [(0, .ref ax), (1, .int w), (2, .int i)] := hl
  have k_f26 := hts (.fieldLink RX7 26 "ParasolHours" "plan" "LParasolHours$Plan;") (List.mem_of_getElem? (i := 1) rfl)
  have k_f35 := hts (.fieldLink RX7 35 "ParasolHours" "now" "LParasolHours$Moment;") (List.mem_of_getElem? (i := 2) rfl)
  have k_f105 := hts (.fieldLink RX7 105 "ParasolHours$Plan" "persons" "I") (List.mem_of_getElem? (i := 3) rfl)
  have iX2 : ∀ w ∈ wsX20, w ∈ wsX7_soonest := by decide +kernel
  have iX7 : ∀ w ∈ wsX70, w ∈ wsX7_soonest := by decide +kernel
  obtain ⟨Q, hQ⟩ : ∃ Q, Q = MQ below (QI D [(ax, .inr (7, [.ref ay, .ref ar, .ref ap, .ref aq, .ref aj, .ref az, .ref ak, .ref ae, .ref ad])), (ap, .inr (2, [.int psq, .int ppa, .int ppe, .int pwo, .ref apk, .ref apq, .ref apr])), (apk, .inl (cI, 6, .inl pkind)), (apq, .inl (cI, 6, .inl pwsq)), (apr, .inl (cI, 6, .inl pwhr)), (aq, .inr (1, [.ref ap, .int qgone, .int qmet, .int qstill, .int qdone, .ref aqh, .ref aqw, .ref aqs, .ref aqu])), (aqh, .inl (cI, 6, .inl qhour)), (aqw, .inl (cI, 6, .inl qworn)), (aqs, .inl (cI, 5, .inl qsquare)), (aqu, .inl (cI, 5, .inl qunder))] rr A) args s 0 0 A := ⟨_, rfl⟩
  rw [← hQ]
  unfold f_X7_soonest at hF
  refine lv_aload_n hx hb dX7_soonest_0 rfl (lv_at hl 0 rfl) ?_
  refine va_get (D := D) (ci := 7) (v := .ref ap) (C := RX7) (T := TX7) (N := 9) hx hb hts iX7 hown hK hP 0 rfl rfl 2 (by decide) k_f26 (fun _ h9 => h9) rfl dX7_soonest_1 ?_
  refine lv_iload_n hx hb dX7_soonest_4 rfl (lv_at hl 1 rfl) ?_
  obtain ⟨r1, hb2, hF⟩ := op_bind hF
  refine xVr (As := [.int w]) (rest := []) hC hP hD hS [1, 2, 3, 4] (c_X2_hasWork l D cI cC cM ap apk apq apr psq ppa ppe pwo pkind pwsq pwhr w r1 hb2) (cwV 1 hts gX7_soonest_X2_hasWork rfl rfl rfl ⟨rfl, pd_X2_hasWork⟩ ⟨Nat.le_of_ble_eq_true rfl, Nat.le_of_ble_eq_true rfl⟩) rfl rfl 1 2 rfl rfl rfl rfl hl.1 rfl (Nat.le_of_ble_eq_true rfl) dX7_soonest_5 ⟨Nat.zero_le _, Nat.zero_le _⟩ (fun H locs hP hS => ?_)
  refine lv_if_eq (tgt := 20) hx hb dX7_soonest_8 (by decide) (fun c3 => ?_) (fun c3 => ?_)
  · have hF := op_pos c3 hF
    refine lv_iconst (v := (-1 : Int32)) hx hb dX7_soonest_20 (by decide) ?_
    cases hF
    rw [hQ]
    exact xri hC hP hS dX7_soonest_21
  · have hF := op_neg c3 hF
    refine lv_iload_n hx hb dX7_soonest_11 rfl (lv_at hl 2 rfl) ?_
    refine lv_if_lt (tgt := 20) hx hb dX7_soonest_12 (by decide) (fun c4 => ?_) (fun c4 => ?_)
    · have hF := op_pos c4 hF
      refine lv_iconst (v := (-1 : Int32)) hx hb dX7_soonest_20 (by decide) ?_
      cases hF
      rw [hQ]
      exact xri hC hP hS dX7_soonest_21
    · have hF := op_neg c4 hF
      refine lv_iload_n hx hb dX7_soonest_15 rfl (lv_at hl 2 rfl) ?_
      refine lv_iconst (v := (1 : Int32)) hx hb dX7_soonest_16 (by decide) ?_
      refine lv_icmp_le (tgt := 22) hx hb dX7_soonest_17 (by decide) (fun c5 => ?_) (fun c5 => ?_)
      · have hF := op_pos c5 hF
        refine lv_aload_n hx hb dX7_soonest_22 rfl (lv_at hl 0 rfl) ?_
        refine va_get (D := D) (ci := 7) (v := .ref aq) (C := RX7) (T := TX7) (N := 9) hx hb hts iX7 hown hK hP 0 rfl rfl 3 (by decide) k_f35 (fun _ h9 => h9) rfl dX7_soonest_23 ?_
        refine lv_iload_n hx hb dX7_soonest_26 rfl (lv_at hl 1 rfl) ?_
        obtain ⟨r6, hb7, hF⟩ := op_bind hF
        refine xVr (As := [.int w]) (rest := []) hC hP hD hS [5, 6, 7, 8, 9, 1, 2, 3, 4] (c_X1_isDone l D cI cC cM aq aqh aqw aqs aqu ap apk apq apr qgone qmet qstill qdone qhour qworn qsquare qunder psq ppa ppe pwo pkind pwsq pwhr w r6 hb7) (cwV 1 hts gX7_soonest_X1_isDone rfl rfl rfl ⟨rfl, pd_X1_isDone⟩ ⟨Nat.le_of_ble_eq_true rfl, Nat.le_of_ble_eq_true rfl⟩) rfl rfl 5 1 rfl rfl rfl rfl hl.1 rfl (Nat.le_of_ble_eq_true rfl) dX7_soonest_27 ⟨Nat.zero_le _, Nat.zero_le _⟩ (fun H locs hP hS => ?_)
        refine lv_if_eq (tgt := 36) hx hb dX7_soonest_30 (by decide) (fun c8 => ?_) (fun c8 => ?_)
        · have hF := op_pos c8 hF
          refine lv_bipush (v := (-4 : Int32)) hx hb dX7_soonest_36 (by decide) ?_
          refine lv_istore_n (lv' := [(3, .int (-4 : Int32)), (0, .ref ax), (1, .int w), (2, .int i)]) hx hb dX7_soonest_38 rfl hl (by decide) rfl (fun ls hl => ?_)
          refine lv_bipush (v := (-4 : Int32)) hx hb dX7_soonest_39 (by decide) ?_
          refine lv_istore (lv' := [(4, .int (-4 : Int32)), (3, .int (-4 : Int32)), (0, .ref ax), (1, .int w), (2, .int i)]) hx hb dX7_soonest_41 hl (by decide) rfl (fun ls hl => ?_)
          refine lv_iconst (v := (0 : Int32)) hx hb dX7_soonest_43 (by decide) ?_
          refine lv_istore (lv' := [(5, .int (0 : Int32)), (4, .int (-4 : Int32)), (3, .int (-4 : Int32)), (0, .ref ax), (1, .int w), (2, .int i)]) hx hb dX7_soonest_44 hl (by decide) rfl (fun ls hl => ?_)
          have hL46 : ∀ (k46 : Int32 → Int32 → Int32 → Option Int32), (∀ (v9 : Int32) (v10 : Int32) (v11 : Int32) (H : Heap) (locs : List Loc), va_P D vwCl [(ax, .inr (7, [.ref ay, .ref ar, .ref ap, .ref aq, .ref aj, .ref az, .ref ak, .ref ae, .ref ad])), (ap, .inr (2, [.int psq, .int ppa, .int ppe, .int pwo, .ref apk, .ref apq, .ref apr])), (apk, .inl (cI, 6, .inl pkind)), (apq, .inl (cI, 6, .inl pwsq)), (apr, .inl (cI, 6, .inl pwhr)), (aq, .inr (1, [.ref ap, .int qgone, .int qmet, .int qstill, .int qdone, .ref aqh, .ref aqw, .ref aqs, .ref aqu])), (aqh, .inl (cI, 6, .inl qhour)), (aqw, .inl (cI, 6, .inl qworn)), (aqs, .inl (cI, 5, .inl qsquare)), (aqu, .inl (cI, 5, .inl qunder))] H → va_D A [(ax, .inr (7, [.ref ay, .ref ar, .ref ap, .ref aq, .ref aj, .ref az, .ref ak, .ref ae, .ref ad])), (ap, .inr (2, [.int psq, .int ppa, .int ppe, .int pwo, .ref apk, .ref apq, .ref apr])), (apk, .inl (cI, 6, .inl pkind)), (apq, .inl (cI, 6, .inl pwsq)), (apr, .inl (cI, 6, .inl pwhr)), (aq, .inr (1, [.ref ap, .int qgone, .int qmet, .int qstill, .int qdone, .ref aqh, .ref aqw, .ref aqs, .ref aqu])), (aqh, .inl (cI, 6, .inl qhour)), (aqw, .inl (cI, 6, .inl qworn)), (aqs, .inl (cI, 5, .inl qsquare)), (aqu, .inl (cI, 5, .inl qunder))] → va_S A s.heap H locs → ∀ ls : Array Slot, lv_has ls 7 [(4, .int v10), (3, .int v9), (2, .int i)] → k46 v9 v10 v11 = some rr → W p l e rm_X7_soonest s m args below meth c H locs 0 0 Q (F0 m 110 ls [])) → ∀ (nf46 : Nat) (v9 : Int32) (v10 : Int32) (v11 : Int32) (H : Heap) (locs : List Loc), va_P D vwCl [(ax, .inr (7, [.ref ay, .ref ar, .ref ap, .ref aq, .ref aj, .ref az, .ref ak, .ref ae, .ref ad])), (ap, .inr (2, [.int psq, .int ppa, .int ppe, .int pwo, .ref apk, .ref apq, .ref apr])), (apk, .inl (cI, 6, .inl pkind)), (apq, .inl (cI, 6, .inl pwsq)), (apr, .inl (cI, 6, .inl pwhr)), (aq, .inr (1, [.ref ap, .int qgone, .int qmet, .int qstill, .int qdone, .ref aqh, .ref aqw, .ref aqs, .ref aqu])), (aqh, .inl (cI, 6, .inl qhour)), (aqw, .inl (cI, 6, .inl qworn)), (aqs, .inl (cI, 5, .inl qsquare)), (aqu, .inl (cI, 5, .inl qunder))] H → va_D A [(ax, .inr (7, [.ref ay, .ref ar, .ref ap, .ref aq, .ref aj, .ref az, .ref ak, .ref ae, .ref ad])), (ap, .inr (2, [.int psq, .int ppa, .int ppe, .int pwo, .ref apk, .ref apq, .ref apr])), (apk, .inl (cI, 6, .inl pkind)), (apq, .inl (cI, 6, .inl pwsq)), (apr, .inl (cI, 6, .inl pwhr)), (aq, .inr (1, [.ref ap, .int qgone, .int qmet, .int qstill, .int qdone, .ref aqh, .ref aqw, .ref aqs, .ref aqu])), (aqh, .inl (cI, 6, .inl qhour)), (aqw, .inl (cI, 6, .inl qworn)), (aqs, .inl (cI, 5, .inl qsquare)), (aqu, .inl (cI, 5, .inl qunder))] → va_S A s.heap H locs → ∀ ls : Array Slot, lv_has ls 7 [(5, .int v11), (4, .int v10), (3, .int v9), (0, .ref ax), (1, .int w), (2, .int i)] → f_X7_soonest_L46 ppe pwhr w qgone qstill qhour qworn qunder pkind k46 nf46 v9 v10 v11 = some rr → W p l e rm_X7_soonest s m args below meth c H locs 0 0 Q (F0 m 46 ls []) := by
            intro k46 hk46 nf46
            induction nf46 with
            | zero =>
              intro v9 v10 v11 H locs hP hD hS ls hl hF
              rw [f_X7_soonest_L46_0] at hF
              cases hF
            | succ nf46 ih46 =>
              intro v9 v10 v11 H locs hP hD hS ls hl hF
              rw [f_X7_soonest_L46_s] at hF
              refine lv_iload hx hb dX7_soonest_46 (lv_at hl 0 rfl) ?_
              refine lv_aload_n hx hb dX7_soonest_48 rfl (lv_at hl 3 rfl) ?_
              refine va_get (D := D) (ci := 7) (v := .ref ap) (C := RX7) (T := TX7) (N := 9) hx hb hts iX7 hown hK hP 0 rfl rfl 2 (by decide) k_f26 (fun _ h9 => h9) rfl dX7_soonest_49 ?_
              refine va_get (D := D) (ci := 2) (v := .int ppe) (C := RX2) (T := TX2) (N := 7) hx hb hts iX2 hown hK hP 1 rfl rfl 2 (by decide) k_f105 (fun _ h9 => h9) rfl dX7_soonest_52 ?_
              refine lv_icmp_ge (tgt := 110) hx hb dX7_soonest_55 (by decide) (fun c12 => ?_) (fun c12 => ?_)
              · have hF := op_pos c12 hF
                exact hk46 v9 v10 v11 _ _ hP hD hS _ (lv_sub hl [1, 2, 5] rfl) hF
              · have hF := op_neg c12 hF
                refine lv_aload_n hx hb dX7_soonest_58 rfl (lv_at hl 3 rfl) ?_
                refine va_get (D := D) (ci := 7) (v := .ref aq) (C := RX7) (T := TX7) (N := 9) hx hb hts iX7 hown hK hP 0 rfl rfl 3 (by decide) k_f35 (fun _ h9 => h9) rfl dX7_soonest_59 ?_
                refine lv_iload hx hb dX7_soonest_62 (lv_at hl 0 rfl) ?_
                refine lv_aload_n hx hb dX7_soonest_64 rfl (lv_at hl 3 rfl) ?_
                refine va_get (D := D) (ci := 7) (v := .ref ap) (C := RX7) (T := TX7) (N := 9) hx hb hts iX7 hown hK hP 0 rfl rfl 2 (by decide) k_f26 (fun _ h9 => h9) rfl dX7_soonest_65 ?_
                refine lv_iload_n hx hb dX7_soonest_68 rfl (lv_at hl 4 rfl) ?_
                obtain ⟨r13, hb14, hF⟩ := op_bind hF
                refine xVr (As := [.int w]) (rest := [.int v11, .ref aq]) hC hP hD hS [1, 2, 3, 4] (c_X2_workHourOf l D cI cC cM ap apk apq apr psq ppa ppe pwo pkind pwsq pwhr w r13 hb14) (cwV 1 hts gX7_soonest_X2_workHourOf rfl rfl rfl ⟨rfl, pd_X2_workHourOf⟩ ⟨Nat.le_of_ble_eq_true rfl, Nat.le_of_ble_eq_true rfl⟩) rfl rfl 1 2 rfl rfl rfl rfl hl.1 rfl (Nat.le_of_ble_eq_true rfl) dX7_soonest_69 ⟨Nat.zero_le _, Nat.zero_le _⟩ (fun H locs hP hS => ?_)
                obtain ⟨r15, hb16, hF⟩ := op_bind hF
                refine xVr (As := [.int v11, .int r13]) (rest := []) hC hP hD hS [5, 6, 7, 8, 9, 1, 2, 3, 4] (c_X1_hoursUntilWork l D cI cC cM aq aqh aqw aqs aqu ap apk apq apr qgone qmet qstill qdone qhour qworn qsquare qunder psq ppa ppe pwo pkind pwsq pwhr v11 r13 r15 hb16) (cwV 2 hts gX7_soonest_X1_hoursUntilWork rfl rfl rfl ⟨rfl, pd_X1_hoursUntilWork⟩ ⟨Nat.le_of_ble_eq_true rfl, Nat.le_of_ble_eq_true rfl⟩) rfl rfl 5 1 rfl rfl rfl rfl hl.1 rfl (Nat.le_of_ble_eq_true rfl) dX7_soonest_72 ⟨Nat.zero_le _, Nat.zero_le _⟩ (fun H locs hP hS => ?_)
                refine lv_istore (lv' := [(6, .int r15), (5, .int v11), (4, .int v10), (3, .int v9), (0, .ref ax), (1, .int w), (2, .int i)]) hx hb dX7_soonest_75 hl (by decide) rfl (fun ls hl => ?_)
                refine lv_iload hx hb dX7_soonest_77 (lv_at hl 0 rfl) ?_
                refine lv_bipush (v := (-4 : Int32)) hx hb dX7_soonest_79 (by decide) ?_
                refine lv_icmp_eq (tgt := 104) hx hb dX7_soonest_81 (by decide) (fun c17 => ?_) (fun c17 => ?_)
                · have hF := op_pos c17 hF
                  refine lv_iinc (v := (v11 + (1 : Int32))) (lv' := [(5, .int (v11 + (1 : Int32))), (6, .int r15), (4, .int v10), (3, .int v9), (0, .ref ax), (1, .int w), (2, .int i)]) hx hb dX7_soonest_104 hl (k := 1) rfl (by first | rfl | decide) (by decide) rfl (fun ls hl => ?_)
                  refine lv_goto (tgt := 46) hx hb dX7_soonest_107 (by decide) ?_
                  exact ih46 v9 v10 (v11 + (1 : Int32)) _ _ hP hD hS _ (lv_sub hl [0, 2, 3, 4, 5, 6] rfl) hF
                · have hF := op_neg c17 hF
                  refine lv_iload_n hx hb dX7_soonest_84 rfl (lv_at hl 3 rfl) ?_
                  refine lv_bipush (v := (-4 : Int32)) hx hb dX7_soonest_85 (by decide) ?_
                  refine lv_icmp_eq (tgt := 97) hx hb dX7_soonest_87 (by decide) (fun c18 => ?_) (fun c18 => ?_)
                  · have hF := op_pos c18 hF
                    refine lv_iload hx hb dX7_soonest_97 (lv_at hl 1 rfl) ?_
                    refine lv_istore_n (lv' := [(3, .int v11), (6, .int r15), (5, .int v11), (4, .int v10), (0, .ref ax), (1, .int w), (2, .int i)]) hx hb dX7_soonest_99 rfl hl (by decide) rfl (fun ls hl => ?_)
                    refine lv_iload hx hb dX7_soonest_100 (lv_at hl 1 rfl) ?_
                    refine lv_istore (lv' := [(4, .int r15), (3, .int v11), (6, .int r15), (5, .int v11), (0, .ref ax), (1, .int w), (2, .int i)]) hx hb dX7_soonest_102 hl (by decide) rfl (fun ls hl => ?_)
                    refine lv_iinc (v := (v11 + (1 : Int32))) (lv' := [(5, .int (v11 + (1 : Int32))), (4, .int r15), (3, .int v11), (6, .int r15), (0, .ref ax), (1, .int w), (2, .int i)]) hx hb dX7_soonest_104 hl (k := 3) rfl (by first | rfl | decide) (by decide) rfl (fun ls hl => ?_)
                    refine lv_goto (tgt := 46) hx hb dX7_soonest_107 (by decide) ?_
                    exact ih46 v11 r15 (v11 + (1 : Int32)) _ _ hP hD hS _ (lv_sub hl [0, 1, 2, 4, 5, 6] rfl) hF
                  · have hF := op_neg c18 hF
                    refine lv_iload hx hb dX7_soonest_90 (lv_at hl 0 rfl) ?_
                    refine lv_iload hx hb dX7_soonest_92 (lv_at hl 2 rfl) ?_
                    refine lv_icmp_ge (tgt := 104) hx hb dX7_soonest_94 (by decide) (fun c19 => ?_) (fun c19 => ?_)
                    · have hF := op_pos c19 hF
                      refine lv_iinc (v := (v11 + (1 : Int32))) (lv' := [(5, .int (v11 + (1 : Int32))), (6, .int r15), (4, .int v10), (3, .int v9), (0, .ref ax), (1, .int w), (2, .int i)]) hx hb dX7_soonest_104 hl (k := 1) rfl (by first | rfl | decide) (by decide) rfl (fun ls hl => ?_)
                      refine lv_goto (tgt := 46) hx hb dX7_soonest_107 (by decide) ?_
                      exact ih46 v9 v10 (v11 + (1 : Int32)) _ _ hP hD hS _ (lv_sub hl [0, 2, 3, 4, 5, 6] rfl) hF
                    · have hF := op_neg c19 hF
                      refine lv_iload hx hb dX7_soonest_97 (lv_at hl 1 rfl) ?_
                      refine lv_istore_n (lv' := [(3, .int v11), (6, .int r15), (5, .int v11), (4, .int v10), (0, .ref ax), (1, .int w), (2, .int i)]) hx hb dX7_soonest_99 rfl hl (by decide) rfl (fun ls hl => ?_)
                      refine lv_iload hx hb dX7_soonest_100 (lv_at hl 1 rfl) ?_
                      refine lv_istore (lv' := [(4, .int r15), (3, .int v11), (6, .int r15), (5, .int v11), (0, .ref ax), (1, .int w), (2, .int i)]) hx hb dX7_soonest_102 hl (by decide) rfl (fun ls hl => ?_)
                      refine lv_iinc (v := (v11 + (1 : Int32))) (lv' := [(5, .int (v11 + (1 : Int32))), (4, .int r15), (3, .int v11), (6, .int r15), (0, .ref ax), (1, .int w), (2, .int i)]) hx hb dX7_soonest_104 hl (k := 3) rfl (by first | rfl | decide) (by decide) rfl (fun ls hl => ?_)
                      refine lv_goto (tgt := 46) hx hb dX7_soonest_107 (by decide) ?_
                      exact ih46 v11 r15 (v11 + (1 : Int32)) _ _ hP hD hS _ (lv_sub hl [0, 1, 2, 4, 5, 6] rfl) hF
          refine hL46 _ (fun v9 v10 v11 H locs hP hD hS ls hl hF => ?_) 20000 (-4 : Int32) (-4 : Int32) (0 : Int32) _ _ hP hD hS _ (lv_sub hl [0, 1, 2, 3, 4, 5] rfl) hF
          refine lv_iload_n hx hb dX7_soonest_110 rfl (lv_at hl 2 rfl) ?_
          refine lv_if_ne (tgt := 118) hx hb dX7_soonest_111 (by decide) (fun c20 => ?_) (fun c20 => ?_)
          · have hF := op_neg c20 hF
            refine lv_iload hx hb dX7_soonest_118 (lv_at hl 0 rfl) ?_
            cases hF
            rw [hQ]
            exact xri hC hP hS dX7_soonest_120
          · have hF := op_pos c20 hF
            refine lv_iload_n hx hb dX7_soonest_114 rfl (lv_at hl 1 rfl) ?_
            refine lv_goto (tgt := 120) hx hb dX7_soonest_115 (by decide) ?_
            cases hF
            rw [hQ]
            exact xri hC hP hS dX7_soonest_120
        · have hF := op_neg c8 hF
          refine lv_bipush (v := (-2 : Int32)) hx hb dX7_soonest_33 (by decide) ?_
          cases hF
          rw [hQ]
          exact xri hC hP hS dX7_soonest_35
      · have hF := op_neg c5 hF
        refine lv_iconst (v := (-1 : Int32)) hx hb dX7_soonest_20 (by decide) ?_
        cases hF
        rw [hQ]
        exact xri hC hP hS dX7_soonest_21

def f_X7_see (esize : Int32) (ehour : (Nat → Int32)) (ebeh : (Nat → Int32)) (h : Int32) (n : Int32) : Option (Int32 × Int32 × (Nat → Int32) × (Nat → Int32)) := (Option.bind (f_X7_isHour h) fun r1 => (if r1 = 0 then (some ((-1 : Int32), esize, ehour, ebeh)) else (if n < 0 then (some ((-1 : Int32), esize, ehour, ebeh)) else (if n ≤ (30 : Int32) then (Option.bind (f_X5_isFull esize) fun r6 => (if r6 = 0 then (Option.bind (f_X5_add esize ehour ebeh h n) fun (zsize_9, zhour_10, zbeh_11) => (some (zsize_9, zsize_9, zhour_10, zbeh_11))) else (some ((-3 : Int32), esize, ehour, ebeh)))) else (some ((-1 : Int32), esize, ehour, ebeh))))))

def rm_X7_see : Room := { frames := 2, cells := 0, slots := 0, locals := 44 }

theorem pd_X7_see : yX7_see.cls ≠ "java/lang/invoke/MethodHandle" ∧ yX7_see.cls ≠ "java/lang/invoke/VarHandle" ∧ (parseMethodDescriptor yX7_see.desc).map (fun d => d.parameters.length) = some 2 := by decide +kernel

set_option maxHeartbeats 4000000 in
set_option maxRecDepth 100000 in
theorem c_X7_see (l : Launch) (D : va_G) (cI cC cM : ClassId) (ax ae aeh aeb ay ar ap aq aj az ak ad : Nat) (esize : Int32) (ehour : (Nat → Int32)) (ebeh : (Nat → Int32)) (h : Int32) (n : Int32) (rr : Int32) (esize' : Int32) (ehour' : (Nat → Int32)) (ebeh' : (Nat → Int32)) (hF : f_X7_see esize ehour ebeh h n = some (rr, esize', ehour', ebeh')) : CI l D cI cC cM yX7_see wsX7_see rm_X7_see [.ref ax, .int h, .int n] [(ax, .inr (7, [.ref ay, .ref ar, .ref ap, .ref aq, .ref aj, .ref az, .ref ak, .ref ae, .ref ad])), (ae, .inr (5, [.ref aeh, .ref aeb, .int esize])), (aeh, .inl (cI, 6, .inl ehour)), (aeb, .inl (cI, 6, .inl ebeh))] [(ax, .inr (7, [.ref ay, .ref ar, .ref ap, .ref aq, .ref aj, .ref az, .ref ak, .ref ae, .ref ad])), (ae, .inr (5, [.ref aeh, .ref aeb, .int esize'])), (aeh, .inl (cI, 6, .inl ehour')), (aeb, .inl (cI, 6, .inl ebeh'))] rr := by
  refine CI.of (cc := cX7_see) (nL := 3) (ret := (some .int)) (by decide) rfl (Nat.le_of_ble_eq_true rfl) ?_
  intro p e s m args below meth c A hC hP hD hS ls hl
  obtain ⟨hx, hb, hml, hown, hts, hr, hlk, hG, hA⟩ := id hC
  have hown : s.vm.findClass RX7 = some m.cls := hown
  have hK := hG.1
  have hl : lv_has ls 3 [(0, .ref ax), (1, .int h), (2, .int n)] := hl
  have k_f57 := hts (.fieldLink RX7 57 "ParasolHours" "seen" "LParasolHours$Sightings;") (List.mem_of_getElem? (i := 1) rfl)
  have k_f250 := hts (.fieldLink RX7 250 "ParasolHours$Sightings" "size" "I") (List.mem_of_getElem? (i := 2) rfl)
  have iX5 : ∀ w ∈ wsX50, w ∈ wsX7_see := by decide +kernel
  have iX7 : ∀ w ∈ wsX70, w ∈ wsX7_see := by decide +kernel
  obtain ⟨Q, hQ⟩ : ∃ Q, Q = MQ below (QI D [(ax, .inr (7, [.ref ay, .ref ar, .ref ap, .ref aq, .ref aj, .ref az, .ref ak, .ref ae, .ref ad])), (ae, .inr (5, [.ref aeh, .ref aeb, .int esize'])), (aeh, .inl (cI, 6, .inl ehour')), (aeb, .inl (cI, 6, .inl ebeh'))] rr A) args s 0 0 A := ⟨_, rfl⟩
  rw [← hQ]
  unfold f_X7_see at hF
  refine lv_iload_n hx hb dX7_see_0 rfl (lv_at hl 1 rfl) ?_
  obtain ⟨r1, hb2, hF⟩ := op_bind hF
  refine xSr (As := [.int h]) (rest := []) hC hP hD hS [] (c_X7_isHour l D cI cC cM h r1 hb2) (va_cwS 1 hts gX7_see_X7_isHour rfl rfl rfl pd_X7_isHour ⟨Nat.le_of_ble_eq_true rfl, Nat.le_of_ble_eq_true rfl⟩) rfl rfl rfl hl.1 rfl (Nat.le_of_ble_eq_true rfl) dX7_see_1 ⟨Nat.zero_le _, Nat.zero_le _⟩ (fun H locs hP hS => ?_)
  refine lv_if_eq (tgt := 17) hx hb dX7_see_4 (by decide) (fun c3 => ?_) (fun c3 => ?_)
  · have hF := op_pos c3 hF
    refine lv_iconst (v := (-1 : Int32)) hx hb dX7_see_17 (by decide) ?_
    cases hF
    rw [hQ]
    exact xri hC hP hS dX7_see_18
  · have hF := op_neg c3 hF
    refine lv_iload_n hx hb dX7_see_7 rfl (lv_at hl 2 rfl) ?_
    refine lv_if_lt (tgt := 17) hx hb dX7_see_8 (by decide) (fun c4 => ?_) (fun c4 => ?_)
    · have hF := op_pos c4 hF
      refine lv_iconst (v := (-1 : Int32)) hx hb dX7_see_17 (by decide) ?_
      cases hF
      rw [hQ]
      exact xri hC hP hS dX7_see_18
    · have hF := op_neg c4 hF
      refine lv_iload_n hx hb dX7_see_11 rfl (lv_at hl 2 rfl) ?_
      refine lv_bipush (v := (30 : Int32)) hx hb dX7_see_12 (by decide) ?_
      refine lv_icmp_le (tgt := 19) hx hb dX7_see_14 (by decide) (fun c5 => ?_) (fun c5 => ?_)
      · have hF := op_pos c5 hF
        refine lv_aload_n hx hb dX7_see_19 rfl (lv_at hl 0 rfl) ?_
        refine va_get (D := D) (ci := 7) (v := .ref ae) (C := RX7) (T := TX7) (N := 9) hx hb hts iX7 hown hK hP 0 rfl rfl 7 (by decide) k_f57 (fun _ h9 => h9) rfl dX7_see_20 ?_
        obtain ⟨r6, hb7, hF⟩ := op_bind hF
        refine xVr (As := []) (rest := []) hC hP hD hS [1, 2, 3] (c_X5_isFull l D cI cC cM ae aeh aeb esize ehour ebeh r6 hb7) (cwV 0 hts gX7_see_X5_isFull rfl rfl rfl ⟨rfl, pd_X5_isFull⟩ ⟨Nat.le_of_ble_eq_true rfl, Nat.le_of_ble_eq_true rfl⟩) rfl rfl 1 5 rfl rfl rfl rfl hl.1 rfl (Nat.le_of_ble_eq_true rfl) dX7_see_23 ⟨Nat.zero_le _, Nat.zero_le _⟩ (fun H locs hP hS => ?_)
        refine lv_if_eq (tgt := 32) hx hb dX7_see_26 (by decide) (fun c8 => ?_) (fun c8 => ?_)
        · have hF := op_pos c8 hF
          refine lv_aload_n hx hb dX7_see_32 rfl (lv_at hl 0 rfl) ?_
          refine va_get (D := D) (ci := 7) (v := .ref ae) (C := RX7) (T := TX7) (N := 9) hx hb hts iX7 hown hK hP 0 rfl rfl 7 (by decide) k_f57 (fun _ h9 => h9) rfl dX7_see_33 ?_
          refine lv_iload_n hx hb dX7_see_36 rfl (lv_at hl 1 rfl) ?_
          refine lv_iload_n hx hb dX7_see_37 rfl (lv_at hl 2 rfl) ?_
          obtain ⟨⟨zsize_9, zhour_10, zbeh_11⟩, hb12, hF⟩ := op_bind hF
          refine xVv (As := [.int h, .int n]) (rest := []) hC hP hD hS [1, 2, 3] (c_X5_add l D cI cC cM ae aeh aeb esize ehour ebeh h n zsize_9 zhour_10 zbeh_11 hb12) (cwV 2 hts gX7_see_X5_add rfl rfl rfl ⟨rfl, pd_X5_add⟩ ⟨Nat.le_of_ble_eq_true rfl, Nat.le_of_ble_eq_true rfl⟩) rfl rfl rfl 1 5 rfl rfl rfl rfl hl.1 rfl (Nat.le_of_ble_eq_true rfl) dX7_see_38 ⟨Nat.zero_le _, Nat.zero_le _⟩ (fun H locs hP hD hS => ?_)
          have hP : va_P D vwCl [(ax, .inr (7, [.ref ay, .ref ar, .ref ap, .ref aq, .ref aj, .ref az, .ref ak, .ref ae, .ref ad])), (ae, .inr (5, [.ref aeh, .ref aeb, .int zsize_9])), (aeh, .inl (cI, 6, .inl zhour_10)), (aeb, .inl (cI, 6, .inl zbeh_11))] H := hP
          have hD : va_D A [(ax, .inr (7, [.ref ay, .ref ar, .ref ap, .ref aq, .ref aj, .ref az, .ref ak, .ref ae, .ref ad])), (ae, .inr (5, [.ref aeh, .ref aeb, .int zsize_9])), (aeh, .inl (cI, 6, .inl zhour_10)), (aeb, .inl (cI, 6, .inl zbeh_11))] := hD
          refine lv_aload_n hx hb dX7_see_41 rfl (lv_at hl 0 rfl) ?_
          refine va_get (D := D) (ci := 7) (v := .ref ae) (C := RX7) (T := TX7) (N := 9) hx hb hts iX7 hown hK hP 0 rfl rfl 7 (by decide) k_f57 (fun _ h9 => h9) rfl dX7_see_42 ?_
          refine va_get (D := D) (ci := 5) (v := .int zsize_9) (C := RX5) (T := TX5) (N := 3) hx hb hts iX5 hown hK hP 1 rfl rfl 2 (by decide) k_f250 (fun _ h9 => h9) rfl dX7_see_45 ?_
          cases hF
          rw [hQ]
          exact xri hC hP hS dX7_see_48
        · have hF := op_neg c8 hF
          refine lv_bipush (v := (-3 : Int32)) hx hb dX7_see_29 (by decide) ?_
          cases hF
          rw [hQ]
          exact xri hC hP hS dX7_see_31
      · have hF := op_neg c5 hF
        refine lv_iconst (v := (-1 : Int32)) hx hb dX7_see_17 (by decide) ?_
        cases hF
        rw [hQ]
        exact xri hC hP hS dX7_see_18

def f_X7_forget (esize : Int32) : Option (Int32 × Int32) := (Option.bind (f_X5_clear) fun zsize_1 => (some (esize, zsize_1)))

def rm_X7_forget : Room := { frames := 1, cells := 0, slots := 0, locals := 20 }

theorem pd_X7_forget : yX7_forget.cls ≠ "java/lang/invoke/MethodHandle" ∧ yX7_forget.cls ≠ "java/lang/invoke/VarHandle" ∧ (parseMethodDescriptor yX7_forget.desc).map (fun d => d.parameters.length) = some 0 := by decide +kernel

set_option maxHeartbeats 4000000 in
set_option maxRecDepth 100000 in
theorem c_X7_forget (l : Launch) (D : va_G) (cI cC cM : ClassId) (ax ae aeh aeb ay ar ap aq aj az ak ad : Nat) (esize : Int32) (ehour : (Nat → Int32)) (ebeh : (Nat → Int32)) (rr : Int32) (esize' : Int32) (hF : f_X7_forget esize = some (rr, esize')) : CI l D cI cC cM yX7_forget wsX7_forget rm_X7_forget [.ref ax] [(ax, .inr (7, [.ref ay, .ref ar, .ref ap, .ref aq, .ref aj, .ref az, .ref ak, .ref ae, .ref ad])), (ae, .inr (5, [.ref aeh, .ref aeb, .int esize])), (aeh, .inl (cI, 6, .inl ehour)), (aeb, .inl (cI, 6, .inl ebeh))] [(ax, .inr (7, [.ref ay, .ref ar, .ref ap, .ref aq, .ref aj, .ref az, .ref ak, .ref ae, .ref ad])), (ae, .inr (5, [.ref aeh, .ref aeb, .int esize'])), (aeh, .inl (cI, 6, .inl ehour)), (aeb, .inl (cI, 6, .inl ebeh))] rr := by
  refine CI.of (cc := cX7_forget) (nL := 2) (ret := (some .int)) (by decide) rfl (Nat.le_of_ble_eq_true rfl) ?_
  intro p e s m args below meth c A hC hP hD hS ls hl
  obtain ⟨hx, hb, hml, hown, hts, hr, hlk, hG, hA⟩ := id hC
  have hown : s.vm.findClass RX7 = some m.cls := hown
  have hK := hG.1
  have hl : lv_has ls 2 [(0, .ref ax)] := hl
  have k_f57 := hts (.fieldLink RX7 57 "ParasolHours" "seen" "LParasolHours$Sightings;") (List.mem_of_getElem? (i := 1) rfl)
  have k_f250 := hts (.fieldLink RX7 250 "ParasolHours$Sightings" "size" "I") (List.mem_of_getElem? (i := 2) rfl)
  have iX5 : ∀ w ∈ wsX50, w ∈ wsX7_forget := by decide +kernel
  have iX7 : ∀ w ∈ wsX70, w ∈ wsX7_forget := by decide +kernel
  obtain ⟨Q, hQ⟩ : ∃ Q, Q = MQ below (QI D [(ax, .inr (7, [.ref ay, .ref ar, .ref ap, .ref aq, .ref aj, .ref az, .ref ak, .ref ae, .ref ad])), (ae, .inr (5, [.ref aeh, .ref aeb, .int esize'])), (aeh, .inl (cI, 6, .inl ehour)), (aeb, .inl (cI, 6, .inl ebeh))] rr A) args s 0 0 A := ⟨_, rfl⟩
  rw [← hQ]
  unfold f_X7_forget at hF
  refine lv_aload_n hx hb dX7_forget_0 rfl (lv_at hl 0 rfl) ?_
  refine va_get (D := D) (ci := 7) (v := .ref ae) (C := RX7) (T := TX7) (N := 9) hx hb hts iX7 hown hK hP 0 rfl rfl 7 (by decide) k_f57 (fun _ h9 => h9) rfl dX7_forget_1 ?_
  refine va_get (D := D) (ci := 5) (v := .int esize) (C := RX5) (T := TX5) (N := 3) hx hb hts iX5 hown hK hP 1 rfl rfl 2 (by decide) k_f250 (fun _ h9 => h9) rfl dX7_forget_4 ?_
  refine lv_istore_n (lv' := [(1, .int esize), (0, .ref ax)]) hx hb dX7_forget_7 rfl hl (by decide) rfl (fun ls hl => ?_)
  refine lv_aload_n hx hb dX7_forget_8 rfl (lv_at hl 1 rfl) ?_
  refine va_get (D := D) (ci := 7) (v := .ref ae) (C := RX7) (T := TX7) (N := 9) hx hb hts iX7 hown hK hP 0 rfl rfl 7 (by decide) k_f57 (fun _ h9 => h9) rfl dX7_forget_9 ?_
  obtain ⟨zsize_1, hb2, hF⟩ := op_bind hF
  refine xVv (As := []) (rest := []) hC hP hD hS [1, 2, 3] (c_X5_clear l D cI cC cM ae aeh aeb esize ehour ebeh zsize_1 hb2) (cwV 0 hts gX7_forget_X5_clear rfl rfl rfl ⟨rfl, pd_X5_clear⟩ ⟨Nat.le_of_ble_eq_true rfl, Nat.le_of_ble_eq_true rfl⟩) rfl rfl rfl 1 5 rfl rfl rfl rfl hl.1 rfl (Nat.le_of_ble_eq_true rfl) dX7_forget_12 ⟨Nat.zero_le _, Nat.zero_le _⟩ (fun H locs hP hD hS => ?_)
  have hP : va_P D vwCl [(ax, .inr (7, [.ref ay, .ref ar, .ref ap, .ref aq, .ref aj, .ref az, .ref ak, .ref ae, .ref ad])), (ae, .inr (5, [.ref aeh, .ref aeb, .int zsize_1])), (aeh, .inl (cI, 6, .inl ehour)), (aeb, .inl (cI, 6, .inl ebeh))] H := hP
  have hD : va_D A [(ax, .inr (7, [.ref ay, .ref ar, .ref ap, .ref aq, .ref aj, .ref az, .ref ak, .ref ae, .ref ad])), (ae, .inr (5, [.ref aeh, .ref aeb, .int zsize_1])), (aeh, .inl (cI, 6, .inl ehour)), (aeb, .inl (cI, 6, .inl ebeh))] := hD
  refine lv_iload_n hx hb dX7_forget_15 rfl (lv_at hl 0 rfl) ?_
  cases hF
  rw [hQ]
  exact xri hC hP hS dX7_forget_16

def f_X7_which_L4 (ppa : Int32) (qhour : (Nat → Int32)) (esize : Int32) (ehour : (Nat → Int32)) (ebeh : (Nat → Int32)) (qgone : Int32) (pkind : (Nat → Int32)) (k4 : Int32 → Int32 → Option Int32) : Nat → Int32 → Int32 → Option Int32
  | 0, _, _ => none
  | nf4 + 1, v1, v2 => (if ppa ≤ v2 then (k4 v1 v2) else (Option.bind (f_X1_hourOf qhour v2) fun r4 => (Option.bind (f_X5_fit esize ehour ebeh qgone pkind v2 r4) fun r6 => (if r6 = 0 then (f_X7_which_L4 ppa qhour esize ehour ebeh qgone pkind k4 nf4 v1 (v2 + (1 : Int32))) else (f_X7_which_L4 ppa qhour esize ehour ebeh qgone pkind k4 nf4 (v1 ||| ((1 : Int32) <<< (v2 &&& 31))) (v2 + (1 : Int32)))))))
theorem f_X7_which_L4_0 (ppa : Int32) (qhour : (Nat → Int32)) (esize : Int32) (ehour : (Nat → Int32)) (ebeh : (Nat → Int32)) (qgone : Int32) (pkind : (Nat → Int32)) (k4 : Int32 → Int32 → Option Int32) (v1 : Int32) (v2 : Int32) : f_X7_which_L4 ppa qhour esize ehour ebeh qgone pkind k4 0 v1 v2 = none := rfl
theorem f_X7_which_L4_s (ppa : Int32) (qhour : (Nat → Int32)) (esize : Int32) (ehour : (Nat → Int32)) (ebeh : (Nat → Int32)) (qgone : Int32) (pkind : (Nat → Int32)) (k4 : Int32 → Int32 → Option Int32) (nf4 : Nat) (v1 : Int32) (v2 : Int32) : f_X7_which_L4 ppa qhour esize ehour ebeh qgone pkind k4 (nf4 + 1) v1 v2 = (if ppa ≤ v2 then (k4 v1 v2) else (Option.bind (f_X1_hourOf qhour v2) fun r4 => (Option.bind (f_X5_fit esize ehour ebeh qgone pkind v2 r4) fun r6 => (if r6 = 0 then (f_X7_which_L4 ppa qhour esize ehour ebeh qgone pkind k4 nf4 v1 (v2 + (1 : Int32))) else (f_X7_which_L4 ppa qhour esize ehour ebeh qgone pkind k4 nf4 (v1 ||| ((1 : Int32) <<< (v2 &&& 31))) (v2 + (1 : Int32))))))) := rfl

def f_X7_which (ppa : Int32) (pkind : (Nat → Int32)) (qgone : Int32) (qhour : (Nat → Int32)) (esize : Int32) (ehour : (Nat → Int32)) (ebeh : (Nat → Int32)) : Option Int32 := (f_X7_which_L4 ppa qhour esize ehour ebeh qgone pkind (fun (v1 : Int32) (v2 : Int32) => (some v1)) 20000 (0 : Int32) (0 : Int32))

def rm_X7_which : Room := { frames := 4, cells := 0, slots := 0, locals := 91 }

theorem pd_X7_which : yX7_which.cls ≠ "java/lang/invoke/MethodHandle" ∧ yX7_which.cls ≠ "java/lang/invoke/VarHandle" ∧ (parseMethodDescriptor yX7_which.desc).map (fun d => d.parameters.length) = some 0 := by decide +kernel

set_option maxHeartbeats 4000000 in
set_option maxRecDepth 100000 in
theorem c_X7_which (l : Launch) (D : va_G) (cI cC cM : ClassId) (ax ap apk apq apr aq aqh aqw aqs aqu ae aeh aeb ay ar aj az ak ad : Nat) (psq : Int32) (ppa : Int32) (ppe : Int32) (pwo : Int32) (pkind : (Nat → Int32)) (pwsq : (Nat → Int32)) (pwhr : (Nat → Int32)) (qgone : Int32) (qmet : Int32) (qstill : Int32) (qdone : Int32) (qhour : (Nat → Int32)) (qworn : (Nat → Int32)) (qsquare : (Nat → Int32)) (qunder : (Nat → Int32)) (esize : Int32) (ehour : (Nat → Int32)) (ebeh : (Nat → Int32)) (rr : Int32) (hF : f_X7_which ppa pkind qgone qhour esize ehour ebeh = some rr) : CI l D cI cC cM yX7_which wsX7_which rm_X7_which [.ref ax] [(ax, .inr (7, [.ref ay, .ref ar, .ref ap, .ref aq, .ref aj, .ref az, .ref ak, .ref ae, .ref ad])), (ap, .inr (2, [.int psq, .int ppa, .int ppe, .int pwo, .ref apk, .ref apq, .ref apr])), (apk, .inl (cI, 6, .inl pkind)), (apq, .inl (cI, 6, .inl pwsq)), (apr, .inl (cI, 6, .inl pwhr)), (aq, .inr (1, [.ref ap, .int qgone, .int qmet, .int qstill, .int qdone, .ref aqh, .ref aqw, .ref aqs, .ref aqu])), (aqh, .inl (cI, 6, .inl qhour)), (aqw, .inl (cI, 6, .inl qworn)), (aqs, .inl (cI, 5, .inl qsquare)), (aqu, .inl (cI, 5, .inl qunder)), (ae, .inr (5, [.ref aeh, .ref aeb, .int esize])), (aeh, .inl (cI, 6, .inl ehour)), (aeb, .inl (cI, 6, .inl ebeh))] [(ax, .inr (7, [.ref ay, .ref ar, .ref ap, .ref aq, .ref aj, .ref az, .ref ak, .ref ae, .ref ad])), (ap, .inr (2, [.int psq, .int ppa, .int ppe, .int pwo, .ref apk, .ref apq, .ref apr])), (apk, .inl (cI, 6, .inl pkind)), (apq, .inl (cI, 6, .inl pwsq)), (apr, .inl (cI, 6, .inl pwhr)), (aq, .inr (1, [.ref ap, .int qgone, .int qmet, .int qstill, .int qdone, .ref aqh, .ref aqw, .ref aqs, .ref aqu])), (aqh, .inl (cI, 6, .inl qhour)), (aqw, .inl (cI, 6, .inl qworn)), (aqs, .inl (cI, 5, .inl qsquare)), (aqu, .inl (cI, 5, .inl qunder)), (ae, .inr (5, [.ref aeh, .ref aeb, .int esize])), (aeh, .inl (cI, 6, .inl ehour)), (aeb, .inl (cI, 6, .inl ebeh))] rr := by
  refine CI.of (cc := cX7_which) (nL := 3) (ret := (some .int)) (by decide) rfl (Nat.le_of_ble_eq_true rfl) ?_
  intro p e s m args below meth c A hC hP hD hS ls hl
  obtain ⟨hx, hb, hml, hown, hts, hr, hlk, hG, hA⟩ := id hC
  have hown : s.vm.findClass RX7 = some m.cls := hown
  have hK := hG.1
  have hl : lv_has ls 3 [(0, .ref ax)] := hl
  have k_f26 := hts (.fieldLink RX7 26 "ParasolHours" "plan" "LParasolHours$Plan;") (List.mem_of_getElem? (i := 1) rfl)
  have k_f102 := hts (.fieldLink RX7 102 "ParasolHours$Plan" "parasols" "I") (List.mem_of_getElem? (i := 2) rfl)
  have k_f57 := hts (.fieldLink RX7 57 "ParasolHours" "seen" "LParasolHours$Sightings;") (List.mem_of_getElem? (i := 3) rfl)
  have k_f35 := hts (.fieldLink RX7 35 "ParasolHours" "now" "LParasolHours$Moment;") (List.mem_of_getElem? (i := 4) rfl)
  have iX2 : ∀ w ∈ wsX20, w ∈ wsX7_which := by decide +kernel
  have iX7 : ∀ w ∈ wsX70, w ∈ wsX7_which := by decide +kernel
  obtain ⟨Q, hQ⟩ : ∃ Q, Q = MQ below (QI D [(ax, .inr (7, [.ref ay, .ref ar, .ref ap, .ref aq, .ref aj, .ref az, .ref ak, .ref ae, .ref ad])), (ap, .inr (2, [.int psq, .int ppa, .int ppe, .int pwo, .ref apk, .ref apq, .ref apr])), (apk, .inl (cI, 6, .inl pkind)), (apq, .inl (cI, 6, .inl pwsq)), (apr, .inl (cI, 6, .inl pwhr)), (aq, .inr (1, [.ref ap, .int qgone, .int qmet, .int qstill, .int qdone, .ref aqh, .ref aqw, .ref aqs, .ref aqu])), (aqh, .inl (cI, 6, .inl qhour)), (aqw, .inl (cI, 6, .inl qworn)), (aqs, .inl (cI, 5, .inl qsquare)), (aqu, .inl (cI, 5, .inl qunder)), (ae, .inr (5, [.ref aeh, .ref aeb, .int esize])), (aeh, .inl (cI, 6, .inl ehour)), (aeb, .inl (cI, 6, .inl ebeh))] rr A) args s 0 0 A := ⟨_, rfl⟩
  rw [← hQ]
  unfold f_X7_which at hF
  refine lv_iconst (v := (0 : Int32)) hx hb dX7_which_0 (by decide) ?_
  refine lv_istore_n (lv' := [(1, .int (0 : Int32)), (0, .ref ax)]) hx hb dX7_which_1 rfl hl (by decide) rfl (fun ls hl => ?_)
  refine lv_iconst (v := (0 : Int32)) hx hb dX7_which_2 (by decide) ?_
  refine lv_istore_n (lv' := [(2, .int (0 : Int32)), (1, .int (0 : Int32)), (0, .ref ax)]) hx hb dX7_which_3 rfl hl (by decide) rfl (fun ls hl => ?_)
  have hL4 : ∀ (k4 : Int32 → Int32 → Option Int32), (∀ (v1 : Int32) (v2 : Int32) (H : Heap) (locs : List Loc), va_P D vwCl [(ax, .inr (7, [.ref ay, .ref ar, .ref ap, .ref aq, .ref aj, .ref az, .ref ak, .ref ae, .ref ad])), (ap, .inr (2, [.int psq, .int ppa, .int ppe, .int pwo, .ref apk, .ref apq, .ref apr])), (apk, .inl (cI, 6, .inl pkind)), (apq, .inl (cI, 6, .inl pwsq)), (apr, .inl (cI, 6, .inl pwhr)), (aq, .inr (1, [.ref ap, .int qgone, .int qmet, .int qstill, .int qdone, .ref aqh, .ref aqw, .ref aqs, .ref aqu])), (aqh, .inl (cI, 6, .inl qhour)), (aqw, .inl (cI, 6, .inl qworn)), (aqs, .inl (cI, 5, .inl qsquare)), (aqu, .inl (cI, 5, .inl qunder)), (ae, .inr (5, [.ref aeh, .ref aeb, .int esize])), (aeh, .inl (cI, 6, .inl ehour)), (aeb, .inl (cI, 6, .inl ebeh))] H → va_D A [(ax, .inr (7, [.ref ay, .ref ar, .ref ap, .ref aq, .ref aj, .ref az, .ref ak, .ref ae, .ref ad])), (ap, .inr (2, [.int psq, .int ppa, .int ppe, .int pwo, .ref apk, .ref apq, .ref apr])), (apk, .inl (cI, 6, .inl pkind)), (apq, .inl (cI, 6, .inl pwsq)), (apr, .inl (cI, 6, .inl pwhr)), (aq, .inr (1, [.ref ap, .int qgone, .int qmet, .int qstill, .int qdone, .ref aqh, .ref aqw, .ref aqs, .ref aqu])), (aqh, .inl (cI, 6, .inl qhour)), (aqw, .inl (cI, 6, .inl qworn)), (aqs, .inl (cI, 5, .inl qsquare)), (aqu, .inl (cI, 5, .inl qunder)), (ae, .inr (5, [.ref aeh, .ref aeb, .int esize])), (aeh, .inl (cI, 6, .inl ehour)), (aeb, .inl (cI, 6, .inl ebeh))] → va_S A s.heap H locs → ∀ ls : Array Slot, lv_has ls 3 [(1, .int v1)] → k4 v1 v2 = some rr → W p l e rm_X7_which s m args below meth c H locs 0 0 Q (F0 m 50 ls [])) → ∀ (nf4 : Nat) (v1 : Int32) (v2 : Int32) (H : Heap) (locs : List Loc), va_P D vwCl [(ax, .inr (7, [.ref ay, .ref ar, .ref ap, .ref aq, .ref aj, .ref az, .ref ak, .ref ae, .ref ad])), (ap, .inr (2, [.int psq, .int ppa, .int ppe, .int pwo, .ref apk, .ref apq, .ref apr])), (apk, .inl (cI, 6, .inl pkind)), (apq, .inl (cI, 6, .inl pwsq)), (apr, .inl (cI, 6, .inl pwhr)), (aq, .inr (1, [.ref ap, .int qgone, .int qmet, .int qstill, .int qdone, .ref aqh, .ref aqw, .ref aqs, .ref aqu])), (aqh, .inl (cI, 6, .inl qhour)), (aqw, .inl (cI, 6, .inl qworn)), (aqs, .inl (cI, 5, .inl qsquare)), (aqu, .inl (cI, 5, .inl qunder)), (ae, .inr (5, [.ref aeh, .ref aeb, .int esize])), (aeh, .inl (cI, 6, .inl ehour)), (aeb, .inl (cI, 6, .inl ebeh))] H → va_D A [(ax, .inr (7, [.ref ay, .ref ar, .ref ap, .ref aq, .ref aj, .ref az, .ref ak, .ref ae, .ref ad])), (ap, .inr (2, [.int psq, .int ppa, .int ppe, .int pwo, .ref apk, .ref apq, .ref apr])), (apk, .inl (cI, 6, .inl pkind)), (apq, .inl (cI, 6, .inl pwsq)), (apr, .inl (cI, 6, .inl pwhr)), (aq, .inr (1, [.ref ap, .int qgone, .int qmet, .int qstill, .int qdone, .ref aqh, .ref aqw, .ref aqs, .ref aqu])), (aqh, .inl (cI, 6, .inl qhour)), (aqw, .inl (cI, 6, .inl qworn)), (aqs, .inl (cI, 5, .inl qsquare)), (aqu, .inl (cI, 5, .inl qunder)), (ae, .inr (5, [.ref aeh, .ref aeb, .int esize])), (aeh, .inl (cI, 6, .inl ehour)), (aeb, .inl (cI, 6, .inl ebeh))] → va_S A s.heap H locs → ∀ ls : Array Slot, lv_has ls 3 [(2, .int v2), (1, .int v1), (0, .ref ax)] → f_X7_which_L4 ppa qhour esize ehour ebeh qgone pkind k4 nf4 v1 v2 = some rr → W p l e rm_X7_which s m args below meth c H locs 0 0 Q (F0 m 4 ls []) := by
    intro k4 hk4 nf4
    induction nf4 with
    | zero =>
      intro v1 v2 H locs hP hD hS ls hl hF
      rw [f_X7_which_L4_0] at hF
      cases hF
    | succ nf4 ih4 =>
      intro v1 v2 H locs hP hD hS ls hl hF
      rw [f_X7_which_L4_s] at hF
      refine lv_iload_n hx hb dX7_which_4 rfl (lv_at hl 0 rfl) ?_
      refine lv_aload_n hx hb dX7_which_5 rfl (lv_at hl 2 rfl) ?_
      refine va_get (D := D) (ci := 7) (v := .ref ap) (C := RX7) (T := TX7) (N := 9) hx hb hts iX7 hown hK hP 0 rfl rfl 2 (by decide) k_f26 (fun _ h9 => h9) rfl dX7_which_6 ?_
      refine va_get (D := D) (ci := 2) (v := .int ppa) (C := RX2) (T := TX2) (N := 7) hx hb hts iX2 hown hK hP 1 rfl rfl 1 (by decide) k_f102 (fun _ h9 => h9) rfl dX7_which_9 ?_
      refine lv_icmp_ge (tgt := 50) hx hb dX7_which_12 (by decide) (fun c3 => ?_) (fun c3 => ?_)
      · have hF := op_pos c3 hF
        exact hk4 v1 v2 _ _ hP hD hS _ (lv_sub hl [1] rfl) hF
      · have hF := op_neg c3 hF
        refine lv_aload_n hx hb dX7_which_15 rfl (lv_at hl 2 rfl) ?_
        refine va_get (D := D) (ci := 7) (v := .ref ae) (C := RX7) (T := TX7) (N := 9) hx hb hts iX7 hown hK hP 0 rfl rfl 7 (by decide) k_f57 (fun _ h9 => h9) rfl dX7_which_16 ?_
        refine lv_aload_n hx hb dX7_which_19 rfl (lv_at hl 2 rfl) ?_
        refine va_get (D := D) (ci := 7) (v := .ref aq) (C := RX7) (T := TX7) (N := 9) hx hb hts iX7 hown hK hP 0 rfl rfl 3 (by decide) k_f35 (fun _ h9 => h9) rfl dX7_which_20 ?_
        refine lv_iload_n hx hb dX7_which_23 rfl (lv_at hl 0 rfl) ?_
        refine lv_aload_n hx hb dX7_which_24 rfl (lv_at hl 2 rfl) ?_
        refine va_get (D := D) (ci := 7) (v := .ref aq) (C := RX7) (T := TX7) (N := 9) hx hb hts iX7 hown hK hP 0 rfl rfl 3 (by decide) k_f35 (fun _ h9 => h9) rfl dX7_which_25 ?_
        refine lv_iload_n hx hb dX7_which_28 rfl (lv_at hl 0 rfl) ?_
        obtain ⟨r4, hb5, hF⟩ := op_bind hF
        refine xVr (As := [.int v2]) (rest := [.int v2, .ref aq, .ref ae]) hC hP hD hS [5, 6, 7, 8, 9, 1, 2, 3, 4] (c_X1_hourOf l D cI cC cM aq aqh aqw aqs aqu ap apk apq apr qgone qmet qstill qdone qhour qworn qsquare qunder psq ppa ppe pwo pkind pwsq pwhr v2 r4 hb5) (cwV 1 hts gX7_which_X1_hourOf rfl rfl rfl ⟨rfl, pd_X1_hourOf⟩ ⟨Nat.le_of_ble_eq_true rfl, Nat.le_of_ble_eq_true rfl⟩) rfl rfl 5 1 rfl rfl rfl rfl hl.1 rfl (Nat.le_of_ble_eq_true rfl) dX7_which_29 ⟨Nat.zero_le _, Nat.zero_le _⟩ (fun H locs hP hS => ?_)
        obtain ⟨r6, hb7, hF⟩ := op_bind hF
        refine xVr (As := [.ref aq, .int v2, .int r4]) (rest := []) hC hP hD hS [10, 11, 12, 5, 6, 7, 8, 9, 1, 2, 3, 4] (c_X5_fit l D cI cC cM ae aeh aeb aq aqh aqw aqs aqu ap apk apq apr esize ehour ebeh qgone qmet qstill qdone qhour qworn qsquare qunder psq ppa ppe pwo pkind pwsq pwhr v2 r4 r6 hb7) (cwV 3 hts gX7_which_X5_fit rfl rfl rfl ⟨rfl, pd_X5_fit⟩ ⟨Nat.le_of_ble_eq_true rfl, Nat.le_of_ble_eq_true rfl⟩) rfl rfl 10 5 rfl rfl rfl rfl hl.1 rfl (Nat.le_of_ble_eq_true rfl) dX7_which_32 ⟨Nat.zero_le _, Nat.zero_le _⟩ (fun H locs hP hS => ?_)
        refine lv_if_eq (tgt := 44) hx hb dX7_which_35 (by decide) (fun c8 => ?_) (fun c8 => ?_)
        · have hF := op_pos c8 hF
          refine lv_iinc (v := (v2 + (1 : Int32))) (lv' := [(2, .int (v2 + (1 : Int32))), (1, .int v1), (0, .ref ax)]) hx hb dX7_which_44 hl (k := 0) rfl (by first | rfl | decide) (by decide) rfl (fun ls hl => ?_)
          refine lv_goto (tgt := 4) hx hb dX7_which_47 (by decide) ?_
          exact ih4 v1 (v2 + (1 : Int32)) _ _ hP hD hS _ (lv_sub hl [0, 1, 2] rfl) hF
        · have hF := op_neg c8 hF
          refine lv_iload_n hx hb dX7_which_38 rfl (lv_at hl 1 rfl) ?_
          refine lv_iconst (v := (1 : Int32)) hx hb dX7_which_39 (by decide) ?_
          refine lv_iload_n hx hb dX7_which_40 rfl (lv_at hl 0 rfl) ?_
          refine lv_ishl hx hb dX7_which_41 ?_
          refine lv_ior hx hb dX7_which_42 ?_
          refine lv_istore_n (lv' := [(1, .int (v1 ||| ((1 : Int32) <<< (v2 &&& 31)))), (2, .int v2), (0, .ref ax)]) hx hb dX7_which_43 rfl hl (by decide) rfl (fun ls hl => ?_)
          refine lv_iinc (v := (v2 + (1 : Int32))) (lv' := [(2, .int (v2 + (1 : Int32))), (1, .int (v1 ||| ((1 : Int32) <<< (v2 &&& 31)))), (0, .ref ax)]) hx hb dX7_which_44 hl (k := 1) rfl (by first | rfl | decide) (by decide) rfl (fun ls hl => ?_)
          refine lv_goto (tgt := 4) hx hb dX7_which_47 (by decide) ?_
          exact ih4 (v1 ||| ((1 : Int32) <<< (v2 &&& 31))) (v2 + (1 : Int32)) _ _ hP hD hS _ (lv_sub hl [0, 1, 2] rfl) hF
  refine hL4 _ (fun v1 v2 H locs hP hD hS ls hl hF => ?_) 20000 (0 : Int32) (0 : Int32) _ _ hP hD hS _ (lv_sub hl [0, 1, 2] rfl) hF
  refine lv_iload_n hx hb dX7_which_50 rfl (lv_at hl 0 rfl) ?_
  cases hF
  rw [hQ]
  exact xri hC hP hS dX7_which_51

def f_X7_set_L17 (esize : Int32) (ehour : (Nat → Int32)) (ebeh : (Nat → Int32)) (qgone : Int32) (pkind : (Nat → Int32)) (u : Int32) (k17 : Int32 → Int32 → Option Int32) : Nat → Int32 → Int32 → Option Int32
  | 0, _, _ => none
  | nf17 + 1, v4, v5 => (if (24 : Int32) ≤ v5 then (k17 v4 v5) else (Option.bind (f_X5_fit esize ehour ebeh qgone pkind u v5) fun r7 => (if r7 = 0 then (f_X7_set_L17 esize ehour ebeh qgone pkind u k17 nf17 v4 (v5 + (1 : Int32))) else (f_X7_set_L17 esize ehour ebeh qgone pkind u k17 nf17 (v4 ||| ((1 : Int32) <<< (v5 &&& 31))) (v5 + (1 : Int32))))))
theorem f_X7_set_L17_0 (esize : Int32) (ehour : (Nat → Int32)) (ebeh : (Nat → Int32)) (qgone : Int32) (pkind : (Nat → Int32)) (u : Int32) (k17 : Int32 → Int32 → Option Int32) (v4 : Int32) (v5 : Int32) : f_X7_set_L17 esize ehour ebeh qgone pkind u k17 0 v4 v5 = none := rfl
theorem f_X7_set_L17_s (esize : Int32) (ehour : (Nat → Int32)) (ebeh : (Nat → Int32)) (qgone : Int32) (pkind : (Nat → Int32)) (u : Int32) (k17 : Int32 → Int32 → Option Int32) (nf17 : Nat) (v4 : Int32) (v5 : Int32) : f_X7_set_L17 esize ehour ebeh qgone pkind u k17 (nf17 + 1) v4 v5 = (if (24 : Int32) ≤ v5 then (k17 v4 v5) else (Option.bind (f_X5_fit esize ehour ebeh qgone pkind u v5) fun r7 => (if r7 = 0 then (f_X7_set_L17 esize ehour ebeh qgone pkind u k17 nf17 v4 (v5 + (1 : Int32))) else (f_X7_set_L17 esize ehour ebeh qgone pkind u k17 nf17 (v4 ||| ((1 : Int32) <<< (v5 &&& 31))) (v5 + (1 : Int32)))))) := rfl

def f_X7_set (ppa : Int32) (pkind : (Nat → Int32)) (qgone : Int32) (esize : Int32) (ehour : (Nat → Int32)) (ebeh : (Nat → Int32)) (u : Int32) : Option Int32 := (Option.bind (f_X2_hasParasol ppa u) fun r1 => (if r1 = 0 then (some (-1 : Int32)) else (f_X7_set_L17 esize ehour ebeh qgone pkind u (fun (v4 : Int32) (v5 : Int32) => (some v4)) 20000 (0 : Int32) (0 : Int32))))

def rm_X7_set : Room := { frames := 4, cells := 0, slots := 0, locals := 91 }

theorem pd_X7_set : yX7_set.cls ≠ "java/lang/invoke/MethodHandle" ∧ yX7_set.cls ≠ "java/lang/invoke/VarHandle" ∧ (parseMethodDescriptor yX7_set.desc).map (fun d => d.parameters.length) = some 1 := by decide +kernel

set_option maxHeartbeats 4000000 in
set_option maxRecDepth 100000 in
theorem c_X7_set (l : Launch) (D : va_G) (cI cC cM : ClassId) (ax ap apk apq apr aq aqh aqw aqs aqu ae aeh aeb ay ar aj az ak ad : Nat) (psq : Int32) (ppa : Int32) (ppe : Int32) (pwo : Int32) (pkind : (Nat → Int32)) (pwsq : (Nat → Int32)) (pwhr : (Nat → Int32)) (qgone : Int32) (qmet : Int32) (qstill : Int32) (qdone : Int32) (qhour : (Nat → Int32)) (qworn : (Nat → Int32)) (qsquare : (Nat → Int32)) (qunder : (Nat → Int32)) (esize : Int32) (ehour : (Nat → Int32)) (ebeh : (Nat → Int32)) (u : Int32) (rr : Int32) (hF : f_X7_set ppa pkind qgone esize ehour ebeh u = some rr) : CI l D cI cC cM yX7_set wsX7_set rm_X7_set [.ref ax, .int u] [(ax, .inr (7, [.ref ay, .ref ar, .ref ap, .ref aq, .ref aj, .ref az, .ref ak, .ref ae, .ref ad])), (ap, .inr (2, [.int psq, .int ppa, .int ppe, .int pwo, .ref apk, .ref apq, .ref apr])), (apk, .inl (cI, 6, .inl pkind)), (apq, .inl (cI, 6, .inl pwsq)), (apr, .inl (cI, 6, .inl pwhr)), (aq, .inr (1, [.ref ap, .int qgone, .int qmet, .int qstill, .int qdone, .ref aqh, .ref aqw, .ref aqs, .ref aqu])), (aqh, .inl (cI, 6, .inl qhour)), (aqw, .inl (cI, 6, .inl qworn)), (aqs, .inl (cI, 5, .inl qsquare)), (aqu, .inl (cI, 5, .inl qunder)), (ae, .inr (5, [.ref aeh, .ref aeb, .int esize])), (aeh, .inl (cI, 6, .inl ehour)), (aeb, .inl (cI, 6, .inl ebeh))] [(ax, .inr (7, [.ref ay, .ref ar, .ref ap, .ref aq, .ref aj, .ref az, .ref ak, .ref ae, .ref ad])), (ap, .inr (2, [.int psq, .int ppa, .int ppe, .int pwo, .ref apk, .ref apq, .ref apr])), (apk, .inl (cI, 6, .inl pkind)), (apq, .inl (cI, 6, .inl pwsq)), (apr, .inl (cI, 6, .inl pwhr)), (aq, .inr (1, [.ref ap, .int qgone, .int qmet, .int qstill, .int qdone, .ref aqh, .ref aqw, .ref aqs, .ref aqu])), (aqh, .inl (cI, 6, .inl qhour)), (aqw, .inl (cI, 6, .inl qworn)), (aqs, .inl (cI, 5, .inl qsquare)), (aqu, .inl (cI, 5, .inl qunder)), (ae, .inr (5, [.ref aeh, .ref aeb, .int esize])), (aeh, .inl (cI, 6, .inl ehour)), (aeb, .inl (cI, 6, .inl ebeh))] rr := by
  refine CI.of (cc := cX7_set) (nL := 4) (ret := (some .int)) (by decide) rfl (Nat.le_of_ble_eq_true rfl) ?_
  intro p e s m args below meth c A hC hP hD hS ls hl
  obtain ⟨hx, hb, hml, hown, hts, hr, hlk, hG, hA⟩ := id hC
  have hown : s.vm.findClass RX7 = some m.cls := hown
  have hK := hG.1
  have hl : lv_has ls 4 [(0, .ref ax), (1, .int u)] := hl
  have k_f26 := hts (.fieldLink RX7 26 "ParasolHours" "plan" "LParasolHours$Plan;") (List.mem_of_getElem? (i := 1) rfl)
  have k_f57 := hts (.fieldLink RX7 57 "ParasolHours" "seen" "LParasolHours$Sightings;") (List.mem_of_getElem? (i := 2) rfl)
  have k_f35 := hts (.fieldLink RX7 35 "ParasolHours" "now" "LParasolHours$Moment;") (List.mem_of_getElem? (i := 3) rfl)
  have iX7 : ∀ w ∈ wsX70, w ∈ wsX7_set := by decide +kernel
  obtain ⟨Q, hQ⟩ : ∃ Q, Q = MQ below (QI D [(ax, .inr (7, [.ref ay, .ref ar, .ref ap, .ref aq, .ref aj, .ref az, .ref ak, .ref ae, .ref ad])), (ap, .inr (2, [.int psq, .int ppa, .int ppe, .int pwo, .ref apk, .ref apq, .ref apr])), (apk, .inl (cI, 6, .inl pkind)), (apq, .inl (cI, 6, .inl pwsq)), (apr, .inl (cI, 6, .inl pwhr)), (aq, .inr (1, [.ref ap, .int qgone, .int qmet, .int qstill, .int qdone, .ref aqh, .ref aqw, .ref aqs, .ref aqu])), (aqh, .inl (cI, 6, .inl qhour)), (aqw, .inl (cI, 6, .inl qworn)), (aqs, .inl (cI, 5, .inl qsquare)), (aqu, .inl (cI, 5, .inl qunder)), (ae, .inr (5, [.ref aeh, .ref aeb, .int esize])), (aeh, .inl (cI, 6, .inl ehour)), (aeb, .inl (cI, 6, .inl ebeh))] rr A) args s 0 0 A := ⟨_, rfl⟩
  rw [← hQ]
  unfold f_X7_set at hF
  refine lv_aload_n hx hb dX7_set_0 rfl (lv_at hl 0 rfl) ?_
  refine va_get (D := D) (ci := 7) (v := .ref ap) (C := RX7) (T := TX7) (N := 9) hx hb hts iX7 hown hK hP 0 rfl rfl 2 (by decide) k_f26 (fun _ h9 => h9) rfl dX7_set_1 ?_
  refine lv_iload_n hx hb dX7_set_4 rfl (lv_at hl 1 rfl) ?_
  obtain ⟨r1, hb2, hF⟩ := op_bind hF
  refine xVr (As := [.int u]) (rest := []) hC hP hD hS [1, 2, 3, 4] (c_X2_hasParasol l D cI cC cM ap apk apq apr psq ppa ppe pwo pkind pwsq pwhr u r1 hb2) (cwV 1 hts gX7_set_X2_hasParasol rfl rfl rfl ⟨rfl, pd_X2_hasParasol⟩ ⟨Nat.le_of_ble_eq_true rfl, Nat.le_of_ble_eq_true rfl⟩) rfl rfl 1 2 rfl rfl rfl rfl hl.1 rfl (Nat.le_of_ble_eq_true rfl) dX7_set_5 ⟨Nat.zero_le _, Nat.zero_le _⟩ (fun H locs hP hS => ?_)
  refine lv_if_ne (tgt := 13) hx hb dX7_set_8 (by decide) (fun c3 => ?_) (fun c3 => ?_)
  · have hF := op_neg c3 hF
    refine lv_iconst (v := (0 : Int32)) hx hb dX7_set_13 (by decide) ?_
    refine lv_istore_n (lv' := [(2, .int (0 : Int32)), (0, .ref ax), (1, .int u)]) hx hb dX7_set_14 rfl hl (by decide) rfl (fun ls hl => ?_)
    refine lv_iconst (v := (0 : Int32)) hx hb dX7_set_15 (by decide) ?_
    refine lv_istore_n (lv' := [(3, .int (0 : Int32)), (2, .int (0 : Int32)), (0, .ref ax), (1, .int u)]) hx hb dX7_set_16 rfl hl (by decide) rfl (fun ls hl => ?_)
    have hL17 : ∀ (k17 : Int32 → Int32 → Option Int32), (∀ (v4 : Int32) (v5 : Int32) (H : Heap) (locs : List Loc), va_P D vwCl [(ax, .inr (7, [.ref ay, .ref ar, .ref ap, .ref aq, .ref aj, .ref az, .ref ak, .ref ae, .ref ad])), (ap, .inr (2, [.int psq, .int ppa, .int ppe, .int pwo, .ref apk, .ref apq, .ref apr])), (apk, .inl (cI, 6, .inl pkind)), (apq, .inl (cI, 6, .inl pwsq)), (apr, .inl (cI, 6, .inl pwhr)), (aq, .inr (1, [.ref ap, .int qgone, .int qmet, .int qstill, .int qdone, .ref aqh, .ref aqw, .ref aqs, .ref aqu])), (aqh, .inl (cI, 6, .inl qhour)), (aqw, .inl (cI, 6, .inl qworn)), (aqs, .inl (cI, 5, .inl qsquare)), (aqu, .inl (cI, 5, .inl qunder)), (ae, .inr (5, [.ref aeh, .ref aeb, .int esize])), (aeh, .inl (cI, 6, .inl ehour)), (aeb, .inl (cI, 6, .inl ebeh))] H → va_D A [(ax, .inr (7, [.ref ay, .ref ar, .ref ap, .ref aq, .ref aj, .ref az, .ref ak, .ref ae, .ref ad])), (ap, .inr (2, [.int psq, .int ppa, .int ppe, .int pwo, .ref apk, .ref apq, .ref apr])), (apk, .inl (cI, 6, .inl pkind)), (apq, .inl (cI, 6, .inl pwsq)), (apr, .inl (cI, 6, .inl pwhr)), (aq, .inr (1, [.ref ap, .int qgone, .int qmet, .int qstill, .int qdone, .ref aqh, .ref aqw, .ref aqs, .ref aqu])), (aqh, .inl (cI, 6, .inl qhour)), (aqw, .inl (cI, 6, .inl qworn)), (aqs, .inl (cI, 5, .inl qsquare)), (aqu, .inl (cI, 5, .inl qunder)), (ae, .inr (5, [.ref aeh, .ref aeb, .int esize])), (aeh, .inl (cI, 6, .inl ehour)), (aeb, .inl (cI, 6, .inl ebeh))] → va_S A s.heap H locs → ∀ ls : Array Slot, lv_has ls 4 [(2, .int v4)] → k17 v4 v5 = some rr → W p l e rm_X7_set s m args below meth c H locs 0 0 Q (F0 m 51 ls [])) → ∀ (nf17 : Nat) (v4 : Int32) (v5 : Int32) (H : Heap) (locs : List Loc), va_P D vwCl [(ax, .inr (7, [.ref ay, .ref ar, .ref ap, .ref aq, .ref aj, .ref az, .ref ak, .ref ae, .ref ad])), (ap, .inr (2, [.int psq, .int ppa, .int ppe, .int pwo, .ref apk, .ref apq, .ref apr])), (apk, .inl (cI, 6, .inl pkind)), (apq, .inl (cI, 6, .inl pwsq)), (apr, .inl (cI, 6, .inl pwhr)), (aq, .inr (1, [.ref ap, .int qgone, .int qmet, .int qstill, .int qdone, .ref aqh, .ref aqw, .ref aqs, .ref aqu])), (aqh, .inl (cI, 6, .inl qhour)), (aqw, .inl (cI, 6, .inl qworn)), (aqs, .inl (cI, 5, .inl qsquare)), (aqu, .inl (cI, 5, .inl qunder)), (ae, .inr (5, [.ref aeh, .ref aeb, .int esize])), (aeh, .inl (cI, 6, .inl ehour)), (aeb, .inl (cI, 6, .inl ebeh))] H → va_D A [(ax, .inr (7, [.ref ay, .ref ar, .ref ap, .ref aq, .ref aj, .ref az, .ref ak, .ref ae, .ref ad])), (ap, .inr (2, [.int psq, .int ppa, .int ppe, .int pwo, .ref apk, .ref apq, .ref apr])), (apk, .inl (cI, 6, .inl pkind)), (apq, .inl (cI, 6, .inl pwsq)), (apr, .inl (cI, 6, .inl pwhr)), (aq, .inr (1, [.ref ap, .int qgone, .int qmet, .int qstill, .int qdone, .ref aqh, .ref aqw, .ref aqs, .ref aqu])), (aqh, .inl (cI, 6, .inl qhour)), (aqw, .inl (cI, 6, .inl qworn)), (aqs, .inl (cI, 5, .inl qsquare)), (aqu, .inl (cI, 5, .inl qunder)), (ae, .inr (5, [.ref aeh, .ref aeb, .int esize])), (aeh, .inl (cI, 6, .inl ehour)), (aeb, .inl (cI, 6, .inl ebeh))] → va_S A s.heap H locs → ∀ ls : Array Slot, lv_has ls 4 [(3, .int v5), (2, .int v4), (0, .ref ax), (1, .int u)] → f_X7_set_L17 esize ehour ebeh qgone pkind u k17 nf17 v4 v5 = some rr → W p l e rm_X7_set s m args below meth c H locs 0 0 Q (F0 m 17 ls []) := by
      intro k17 hk17 nf17
      induction nf17 with
      | zero =>
        intro v4 v5 H locs hP hD hS ls hl hF
        rw [f_X7_set_L17_0] at hF
        cases hF
      | succ nf17 ih17 =>
        intro v4 v5 H locs hP hD hS ls hl hF
        rw [f_X7_set_L17_s] at hF
        refine lv_iload_n hx hb dX7_set_17 rfl (lv_at hl 0 rfl) ?_
        refine lv_bipush (v := (24 : Int32)) hx hb dX7_set_18 (by decide) ?_
        refine lv_icmp_ge (tgt := 51) hx hb dX7_set_20 (by decide) (fun c6 => ?_) (fun c6 => ?_)
        · have hF := op_pos c6 hF
          exact hk17 v4 v5 _ _ hP hD hS _ (lv_sub hl [1] rfl) hF
        · have hF := op_neg c6 hF
          refine lv_aload_n hx hb dX7_set_23 rfl (lv_at hl 2 rfl) ?_
          refine va_get (D := D) (ci := 7) (v := .ref ae) (C := RX7) (T := TX7) (N := 9) hx hb hts iX7 hown hK hP 0 rfl rfl 7 (by decide) k_f57 (fun _ h9 => h9) rfl dX7_set_24 ?_
          refine lv_aload_n hx hb dX7_set_27 rfl (lv_at hl 2 rfl) ?_
          refine va_get (D := D) (ci := 7) (v := .ref aq) (C := RX7) (T := TX7) (N := 9) hx hb hts iX7 hown hK hP 0 rfl rfl 3 (by decide) k_f35 (fun _ h9 => h9) rfl dX7_set_28 ?_
          refine lv_iload_n hx hb dX7_set_31 rfl (lv_at hl 3 rfl) ?_
          refine lv_iload_n hx hb dX7_set_32 rfl (lv_at hl 0 rfl) ?_
          obtain ⟨r7, hb8, hF⟩ := op_bind hF
          refine xVr (As := [.ref aq, .int u, .int v5]) (rest := []) hC hP hD hS [10, 11, 12, 5, 6, 7, 8, 9, 1, 2, 3, 4] (c_X5_fit l D cI cC cM ae aeh aeb aq aqh aqw aqs aqu ap apk apq apr esize ehour ebeh qgone qmet qstill qdone qhour qworn qsquare qunder psq ppa ppe pwo pkind pwsq pwhr u v5 r7 hb8) (cwV 3 hts gX7_set_X5_fit rfl rfl rfl ⟨rfl, pd_X5_fit⟩ ⟨Nat.le_of_ble_eq_true rfl, Nat.le_of_ble_eq_true rfl⟩) rfl rfl 10 5 rfl rfl rfl rfl hl.1 rfl (Nat.le_of_ble_eq_true rfl) dX7_set_33 ⟨Nat.zero_le _, Nat.zero_le _⟩ (fun H locs hP hS => ?_)
          refine lv_if_eq (tgt := 45) hx hb dX7_set_36 (by decide) (fun c9 => ?_) (fun c9 => ?_)
          · have hF := op_pos c9 hF
            refine lv_iinc (v := (v5 + (1 : Int32))) (lv' := [(3, .int (v5 + (1 : Int32))), (2, .int v4), (0, .ref ax), (1, .int u)]) hx hb dX7_set_45 hl (k := 0) rfl (by first | rfl | decide) (by decide) rfl (fun ls hl => ?_)
            refine lv_goto (tgt := 17) hx hb dX7_set_48 (by decide) ?_
            exact ih17 v4 (v5 + (1 : Int32)) _ _ hP hD hS _ (lv_sub hl [0, 1, 2, 3] rfl) hF
          · have hF := op_neg c9 hF
            refine lv_iload_n hx hb dX7_set_39 rfl (lv_at hl 1 rfl) ?_
            refine lv_iconst (v := (1 : Int32)) hx hb dX7_set_40 (by decide) ?_
            refine lv_iload_n hx hb dX7_set_41 rfl (lv_at hl 0 rfl) ?_
            refine lv_ishl hx hb dX7_set_42 ?_
            refine lv_ior hx hb dX7_set_43 ?_
            refine lv_istore_n (lv' := [(2, .int (v4 ||| ((1 : Int32) <<< (v5 &&& 31)))), (3, .int v5), (0, .ref ax), (1, .int u)]) hx hb dX7_set_44 rfl hl (by decide) rfl (fun ls hl => ?_)
            refine lv_iinc (v := (v5 + (1 : Int32))) (lv' := [(3, .int (v5 + (1 : Int32))), (2, .int (v4 ||| ((1 : Int32) <<< (v5 &&& 31)))), (0, .ref ax), (1, .int u)]) hx hb dX7_set_45 hl (k := 1) rfl (by first | rfl | decide) (by decide) rfl (fun ls hl => ?_)
            refine lv_goto (tgt := 17) hx hb dX7_set_48 (by decide) ?_
            exact ih17 (v4 ||| ((1 : Int32) <<< (v5 &&& 31))) (v5 + (1 : Int32)) _ _ hP hD hS _ (lv_sub hl [0, 1, 2, 3] rfl) hF
    refine hL17 _ (fun v4 v5 H locs hP hD hS ls hl hF => ?_) 20000 (0 : Int32) (0 : Int32) _ _ hP hD hS _ (lv_sub hl [0, 1, 2, 3] rfl) hF
    refine lv_iload_n hx hb dX7_set_51 rfl (lv_at hl 0 rfl) ?_
    cases hF
    rw [hQ]
    exact xri hC hP hS dX7_set_52
  · have hF := op_pos c3 hF
    refine lv_iconst (v := (-1 : Int32)) hx hb dX7_set_11 (by decide) ?_
    cases hF
    rw [hQ]
    exact xri hC hP hS dX7_set_12
