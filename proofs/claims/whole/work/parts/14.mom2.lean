def f_X1_canTake (qstill : Int32) (qsquare : (Nat → Int32)) (qunder : (Nat → Int32)) (ppe : Int32) (i : Int32) (u : Int32) : Option Int32 := (Option.bind (f_X1_isStill qstill i) fun r1 => (if r1 = 0 then (Option.bind (f_X1_squareOf qsquare i) fun r4 => (if r4 = 0 then (Option.bind (f_X1_parasolOf qunder i) fun r7 => (if r7 = (-4 : Int32) then (Option.bind (f_X1_isInStand qunder ppe u) fun r10 => (if r10 = 0 then (some (0 : Int32)) else (some (1 : Int32)))) else (some (0 : Int32)))) else (some (0 : Int32)))) else (some (0 : Int32))))

def rm_X1_canTake : Room := { frames := 4, cells := 0, slots := 0, locals := 86 }

theorem pd_X1_canTake : yX1_canTake.cls ≠ "java/lang/invoke/MethodHandle" ∧ yX1_canTake.cls ≠ "java/lang/invoke/VarHandle" ∧ (parseMethodDescriptor yX1_canTake.desc).map (fun d => d.parameters.length) = some 2 := by decide +kernel

set_option maxHeartbeats 4000000 in
set_option maxRecDepth 100000 in
theorem c_X1_canTake (l : Launch) (D : va_G) (cI cC cM : ClassId) (aq aqh aqw aqs aqu ap apk apq apr : Nat) (qgone : Int32) (qmet : Int32) (qstill : Int32) (qdone : Int32) (qhour : (Nat → Int32)) (qworn : (Nat → Int32)) (qsquare : (Nat → Int32)) (qunder : (Nat → Int32)) (psq : Int32) (ppa : Int32) (ppe : Int32) (pwo : Int32) (pkind : (Nat → Int32)) (pwsq : (Nat → Int32)) (pwhr : (Nat → Int32)) (i : Int32) (u : Int32) (rr : Int32) (hF : f_X1_canTake qstill qsquare qunder ppe i u = some rr) : CI l D cI cC cM yX1_canTake wsX1_canTake rm_X1_canTake [.ref aq, .int i, .int u] [(aq, .inr (1, [.ref ap, .int qgone, .int qmet, .int qstill, .int qdone, .ref aqh, .ref aqw, .ref aqs, .ref aqu])), (aqh, .inl (cI, 6, .inl qhour)), (aqw, .inl (cI, 6, .inl qworn)), (aqs, .inl (cI, 5, .inl qsquare)), (aqu, .inl (cI, 5, .inl qunder)), (ap, .inr (2, [.int psq, .int ppa, .int ppe, .int pwo, .ref apk, .ref apq, .ref apr])), (apk, .inl (cI, 6, .inl pkind)), (apq, .inl (cI, 6, .inl pwsq)), (apr, .inl (cI, 6, .inl pwhr))] [(aq, .inr (1, [.ref ap, .int qgone, .int qmet, .int qstill, .int qdone, .ref aqh, .ref aqw, .ref aqs, .ref aqu])), (aqh, .inl (cI, 6, .inl qhour)), (aqw, .inl (cI, 6, .inl qworn)), (aqs, .inl (cI, 5, .inl qsquare)), (aqu, .inl (cI, 5, .inl qunder)), (ap, .inr (2, [.int psq, .int ppa, .int ppe, .int pwo, .ref apk, .ref apq, .ref apr])), (apk, .inl (cI, 6, .inl pkind)), (apq, .inl (cI, 6, .inl pwsq)), (apr, .inl (cI, 6, .inl pwhr))] rr := by
  refine CI.of (cc := cX1_canTake) (nL := 3) (ret := (some .boolean)) (by decide) rfl (Nat.le_of_ble_eq_true rfl) ?_
  intro p e s m args below meth c A hC hP hD hS ls hl
  obtain ⟨hx, hb, hml, hown, hts, hr, hlk, hG, hA⟩ := id hC
  have hown : s.vm.findClass RX1 = some m.cls := hown
  have hK := hG.1
  have hl : lv_has ls 3 [(0, .ref aq), (1, .int i), (2, .int u)] := hl
  obtain ⟨Q, hQ⟩ : ∃ Q, Q = MQ below (QI D [(aq, .inr (1, [.ref ap, .int qgone, .int qmet, .int qstill, .int qdone, .ref aqh, .ref aqw, .ref aqs, .ref aqu])), (aqh, .inl (cI, 6, .inl qhour)), (aqw, .inl (cI, 6, .inl qworn)), (aqs, .inl (cI, 5, .inl qsquare)), (aqu, .inl (cI, 5, .inl qunder)), (ap, .inr (2, [.int psq, .int ppa, .int ppe, .int pwo, .ref apk, .ref apq, .ref apr])), (apk, .inl (cI, 6, .inl pkind)), (apq, .inl (cI, 6, .inl pwsq)), (apr, .inl (cI, 6, .inl pwhr))] rr A) args s 0 0 A := ⟨_, rfl⟩
  rw [← hQ]
  unfold f_X1_canTake at hF
  refine lv_aload_n hx hb dX1_canTake_0 rfl (lv_at hl 0 rfl) ?_
  refine lv_iload_n hx hb dX1_canTake_1 rfl (lv_at hl 1 rfl) ?_
  obtain ⟨r1, hb2, hF⟩ := op_bind hF
  refine xVr (As := [.int i]) (rest := []) hC hP hD hS [0, 1, 2, 3, 4, 5, 6, 7, 8] (c_X1_isStill l D cI cC cM aq aqh aqw aqs aqu ap apk apq apr qgone qmet qstill qdone qhour qworn qsquare qunder psq ppa ppe pwo pkind pwsq pwhr i r1 hb2) (cwV 1 hts gX1_canTake_X1_isStill rfl rfl rfl ⟨rfl, pd_X1_isStill⟩ ⟨Nat.le_of_ble_eq_true rfl, Nat.le_of_ble_eq_true rfl⟩) rfl rfl 0 1 rfl rfl rfl rfl hl.1 rfl (Nat.le_of_ble_eq_true rfl) dX1_canTake_2 ⟨Nat.zero_le _, Nat.zero_le _⟩ (fun H locs hP hS => ?_)
  refine lv_if_ne (tgt := 38) hx hb dX1_canTake_5 (by decide) (fun c3 => ?_) (fun c3 => ?_)
  · have hF := op_neg c3 hF
    refine lv_iconst (v := (0 : Int32)) hx hb dX1_canTake_38 (by decide) ?_
    cases hF
    rw [hQ]
    exact xrz hC rfl hP hS dX1_canTake_39
  · have hF := op_pos c3 hF
    refine lv_aload_n hx hb dX1_canTake_8 rfl (lv_at hl 0 rfl) ?_
    refine lv_iload_n hx hb dX1_canTake_9 rfl (lv_at hl 1 rfl) ?_
    obtain ⟨r4, hb5, hF⟩ := op_bind hF
    refine xVr (As := [.int i]) (rest := []) hC hP hD hS [0, 1, 2, 3, 4, 5, 6, 7, 8] (c_X1_squareOf l D cI cC cM aq aqh aqw aqs aqu ap apk apq apr qgone qmet qstill qdone qhour qworn qsquare qunder psq ppa ppe pwo pkind pwsq pwhr i r4 hb5) (cwV 1 hts gX1_canTake_X1_squareOf rfl rfl rfl ⟨rfl, pd_X1_squareOf⟩ ⟨Nat.le_of_ble_eq_true rfl, Nat.le_of_ble_eq_true rfl⟩) rfl rfl 0 1 rfl rfl rfl rfl hl.1 rfl (Nat.le_of_ble_eq_true rfl) dX1_canTake_10 ⟨Nat.zero_le _, Nat.zero_le _⟩ (fun H locs hP hS => ?_)
    refine lv_if_ne (tgt := 38) hx hb dX1_canTake_13 (by decide) (fun c6 => ?_) (fun c6 => ?_)
    · have hF := op_neg c6 hF
      refine lv_iconst (v := (0 : Int32)) hx hb dX1_canTake_38 (by decide) ?_
      cases hF
      rw [hQ]
      exact xrz hC rfl hP hS dX1_canTake_39
    · have hF := op_pos c6 hF
      refine lv_aload_n hx hb dX1_canTake_16 rfl (lv_at hl 0 rfl) ?_
      refine lv_iload_n hx hb dX1_canTake_17 rfl (lv_at hl 1 rfl) ?_
      obtain ⟨r7, hb8, hF⟩ := op_bind hF
      refine xVr (As := [.int i]) (rest := []) hC hP hD hS [0, 1, 2, 3, 4, 5, 6, 7, 8] (c_X1_parasolOf l D cI cC cM aq aqh aqw aqs aqu ap apk apq apr qgone qmet qstill qdone qhour qworn qsquare qunder psq ppa ppe pwo pkind pwsq pwhr i r7 hb8) (cwV 1 hts gX1_canTake_X1_parasolOf rfl rfl rfl ⟨rfl, pd_X1_parasolOf⟩ ⟨Nat.le_of_ble_eq_true rfl, Nat.le_of_ble_eq_true rfl⟩) rfl rfl 0 1 rfl rfl rfl rfl hl.1 rfl (Nat.le_of_ble_eq_true rfl) dX1_canTake_18 ⟨Nat.zero_le _, Nat.zero_le _⟩ (fun H locs hP hS => ?_)
      refine lv_bipush (v := (-4 : Int32)) hx hb dX1_canTake_21 (by decide) ?_
      refine lv_icmp_ne (tgt := 38) hx hb dX1_canTake_23 (by decide) (fun c9 => ?_) (fun c9 => ?_)
      · have hF := op_neg c9 hF
        refine lv_iconst (v := (0 : Int32)) hx hb dX1_canTake_38 (by decide) ?_
        cases hF
        rw [hQ]
        exact xrz hC rfl hP hS dX1_canTake_39
      · have hF := op_pos c9 hF
        refine lv_aload_n hx hb dX1_canTake_26 rfl (lv_at hl 0 rfl) ?_
        refine lv_iload_n hx hb dX1_canTake_27 rfl (lv_at hl 2 rfl) ?_
        obtain ⟨r10, hb11, hF⟩ := op_bind hF
        refine xVr (As := [.int u]) (rest := []) hC hP hD hS [0, 1, 2, 3, 4, 5, 6, 7, 8] (c_X1_isInStand l D cI cC cM aq aqh aqw aqs aqu ap apk apq apr qgone qmet qstill qdone qhour qworn qsquare qunder psq ppa ppe pwo pkind pwsq pwhr u r10 hb11) (cwV 1 hts gX1_canTake_X1_isInStand rfl rfl rfl ⟨rfl, pd_X1_isInStand⟩ ⟨Nat.le_of_ble_eq_true rfl, Nat.le_of_ble_eq_true rfl⟩) rfl rfl 0 1 rfl rfl rfl rfl hl.1 rfl (Nat.le_of_ble_eq_true rfl) dX1_canTake_28 ⟨Nat.zero_le _, Nat.zero_le _⟩ (fun H locs hP hS => ?_)
        refine lv_if_eq (tgt := 38) hx hb dX1_canTake_31 (by decide) (fun c12 => ?_) (fun c12 => ?_)
        · have hF := op_pos c12 hF
          refine lv_iconst (v := (0 : Int32)) hx hb dX1_canTake_38 (by decide) ?_
          cases hF
          rw [hQ]
          exact xrz hC rfl hP hS dX1_canTake_39
        · have hF := op_neg c12 hF
          refine lv_iconst (v := (1 : Int32)) hx hb dX1_canTake_34 (by decide) ?_
          refine lv_goto (tgt := 39) hx hb dX1_canTake_35 (by decide) ?_
          cases hF
          rw [hQ]
          exact xrz hC rfl hP hS dX1_canTake_39

def f_X1_doTake (qunder : (Nat → Int32)) (i : Int32) (u : Int32) : Option (Nat → Int32) := (Option.bind (f_X7_put 5 qunder i u) fun f_1 => (some f_1))

def rm_X1_doTake : Room := { frames := 1, cells := 0, slots := 0, locals := 22 }

theorem pd_X1_doTake : yX1_doTake.cls ≠ "java/lang/invoke/MethodHandle" ∧ yX1_doTake.cls ≠ "java/lang/invoke/VarHandle" ∧ (parseMethodDescriptor yX1_doTake.desc).map (fun d => d.parameters.length) = some 2 := by decide +kernel

set_option maxHeartbeats 4000000 in
set_option maxRecDepth 100000 in
theorem c_X1_doTake (l : Launch) (D : va_G) (cI cC cM : ClassId) (aq aqh aqw aqs aqu ap apk apq apr : Nat) (qgone : Int32) (qmet : Int32) (qstill : Int32) (qdone : Int32) (qhour : (Nat → Int32)) (qworn : (Nat → Int32)) (qsquare : (Nat → Int32)) (qunder : (Nat → Int32)) (psq : Int32) (ppa : Int32) (ppe : Int32) (pwo : Int32) (pkind : (Nat → Int32)) (pwsq : (Nat → Int32)) (pwhr : (Nat → Int32)) (i : Int32) (u : Int32) (qunder' : (Nat → Int32)) (hF : f_X1_doTake qunder i u = some qunder') : CV l D cI cC cM yX1_doTake wsX1_doTake rm_X1_doTake [.ref aq, .int i, .int u] [(aq, .inr (1, [.ref ap, .int qgone, .int qmet, .int qstill, .int qdone, .ref aqh, .ref aqw, .ref aqs, .ref aqu])), (aqh, .inl (cI, 6, .inl qhour)), (aqw, .inl (cI, 6, .inl qworn)), (aqs, .inl (cI, 5, .inl qsquare)), (aqu, .inl (cI, 5, .inl qunder)), (ap, .inr (2, [.int psq, .int ppa, .int ppe, .int pwo, .ref apk, .ref apq, .ref apr])), (apk, .inl (cI, 6, .inl pkind)), (apq, .inl (cI, 6, .inl pwsq)), (apr, .inl (cI, 6, .inl pwhr))] [(aq, .inr (1, [.ref ap, .int qgone, .int qmet, .int qstill, .int qdone, .ref aqh, .ref aqw, .ref aqs, .ref aqu])), (aqh, .inl (cI, 6, .inl qhour)), (aqw, .inl (cI, 6, .inl qworn)), (aqs, .inl (cI, 5, .inl qsquare)), (aqu, .inl (cI, 5, .inl qunder')), (ap, .inr (2, [.int psq, .int ppa, .int ppe, .int pwo, .ref apk, .ref apq, .ref apr])), (apk, .inl (cI, 6, .inl pkind)), (apq, .inl (cI, 6, .inl pwsq)), (apr, .inl (cI, 6, .inl pwhr))] := by
  refine CV.of (cc := cX1_doTake) (nL := 3) (ret := none) (by decide) rfl (Nat.le_of_ble_eq_true rfl) ?_
  intro p e s m args below meth c A hC hP hD hS ls hl
  obtain ⟨hx, hb, hml, hown, hts, hr, hlk, hG, hA⟩ := id hC
  have hown : s.vm.findClass RX1 = some m.cls := hown
  have hK := hG.1
  have hl : lv_has ls 3 [(0, .ref aq), (1, .int i), (2, .int u)] := hl
  have k_f21 := hts (.fieldLink RX1 21 "ParasolHours$Moment" "under" "[I") (List.mem_of_getElem? (i := 1) rfl)
  have k_st_put := hts (.static yX7_put) (List.mem_of_getElem? (i := 2) rfl)
  have k_in_X7 := hts (.initialized RX7) (List.mem_of_getElem? (i := 3) rfl)
  have iX1 : ∀ w ∈ wsX10, w ∈ wsX1_doTake := by decide +kernel
  obtain ⟨Q, hQ⟩ : ∃ Q, Q = MQ below (QV D [(aq, .inr (1, [.ref ap, .int qgone, .int qmet, .int qstill, .int qdone, .ref aqh, .ref aqw, .ref aqs, .ref aqu])), (aqh, .inl (cI, 6, .inl qhour)), (aqw, .inl (cI, 6, .inl qworn)), (aqs, .inl (cI, 5, .inl qsquare)), (aqu, .inl (cI, 5, .inl qunder')), (ap, .inr (2, [.int psq, .int ppa, .int ppe, .int pwo, .ref apk, .ref apq, .ref apr])), (apk, .inl (cI, 6, .inl pkind)), (apq, .inl (cI, 6, .inl pwsq)), (apr, .inl (cI, 6, .inl pwhr))] A) args s 0 0 A := ⟨_, rfl⟩
  rw [← hQ]
  unfold f_X1_doTake at hF
  refine lv_aload_n hx hb dX1_doTake_0 rfl (lv_at hl 0 rfl) ?_
  refine va_get (D := D) (ci := 1) (v := .ref aqu) (C := RX1) (T := TX1) (N := 9) hx hb hts iX1 hown hK hP 0 rfl rfl 8 (by decide) k_f21 (fun _ h9 => h9) rfl dX1_doTake_1 ?_
  refine lv_iload_n hx hb dX1_doTake_4 rfl (lv_at hl 1 rfl) ?_
  refine lv_iload_n hx hb dX1_doTake_5 rfl (lv_at hl 2 rfl) ?_
  obtain ⟨f_1, hb2, hF⟩ := op_bind hF
  refine xNv (As := [.ref aqu, .int i, .int u]) (rest := []) hC hP hD hS [4] (c_X7_put l D cI cC cM aqu 5 qunder i u f_1 hb2) ⟨va_cnB 3 hts gX1_doTake_X7_put_n100 rfl rfl rfl (hG.nw 14 rfl) k_in_X7 pd_X7_put ⟨Nat.le_of_ble_eq_true rfl, Nat.le_of_ble_eq_true rfl⟩, k_st_put, trivial⟩ rfl rfl rfl rfl hl.1 rfl (Nat.le_of_ble_eq_true rfl) dX1_doTake_6 ⟨Nat.zero_le _, Nat.zero_le _⟩ (fun H locs hP hD hS => ?_)
  have hP : va_P D vwCl [(aq, .inr (1, [.ref ap, .int qgone, .int qmet, .int qstill, .int qdone, .ref aqh, .ref aqw, .ref aqs, .ref aqu])), (aqh, .inl (cI, 6, .inl qhour)), (aqw, .inl (cI, 6, .inl qworn)), (aqs, .inl (cI, 5, .inl qsquare)), (aqu, .inl (cI, 5, .inl f_1)), (ap, .inr (2, [.int psq, .int ppa, .int ppe, .int pwo, .ref apk, .ref apq, .ref apr])), (apk, .inl (cI, 6, .inl pkind)), (apq, .inl (cI, 6, .inl pwsq)), (apr, .inl (cI, 6, .inl pwhr))] H := hP
  have hD : va_D A [(aq, .inr (1, [.ref ap, .int qgone, .int qmet, .int qstill, .int qdone, .ref aqh, .ref aqw, .ref aqs, .ref aqu])), (aqh, .inl (cI, 6, .inl qhour)), (aqw, .inl (cI, 6, .inl qworn)), (aqs, .inl (cI, 5, .inl qsquare)), (aqu, .inl (cI, 5, .inl f_1)), (ap, .inr (2, [.int psq, .int ppa, .int ppe, .int pwo, .ref apk, .ref apq, .ref apr])), (apk, .inl (cI, 6, .inl pkind)), (apq, .inl (cI, 6, .inl pwsq)), (apr, .inl (cI, 6, .inl pwhr))] := hD
  cases hF
  rw [hQ]
  exact xrv hC hP hS dX1_doTake_9

def f_X1_canShare (qsquare : (Nat → Int32)) (qunder : (Nat → Int32)) (ppe : Int32) (i : Int32) (j : Int32) : Option Int32 := (Option.bind (f_X1_parasolOf qunder j) fun r1 => (if i = j then (some (0 : Int32)) else (Option.bind (f_X1_parasolOf qunder i) fun r4 => (if r4 = (-4 : Int32) then (if r1 = (-4 : Int32) then (some (0 : Int32)) else (Option.bind (f_X1_squareOf qsquare i) fun r8 => (Option.bind (f_X1_squareOf qsquare j) fun r10 => (if r8 = r10 then (Option.bind (f_X1_bearersOf qunder ppe r1) fun r13 => (Option.bind (f_J6_bitCount_0f7a4 r13) fun r15 => (if (2 : Int32) ≤ r15 then (some (0 : Int32)) else (some (1 : Int32))))) else (some (0 : Int32)))))) else (some (0 : Int32))))))

def rm_X1_canShare : Room := { frames := 3, cells := 0, slots := 0, locals := 65 }

theorem pd_X1_canShare : yX1_canShare.cls ≠ "java/lang/invoke/MethodHandle" ∧ yX1_canShare.cls ≠ "java/lang/invoke/VarHandle" ∧ (parseMethodDescriptor yX1_canShare.desc).map (fun d => d.parameters.length) = some 2 := by decide +kernel

set_option maxHeartbeats 4000000 in
set_option maxRecDepth 100000 in
theorem c_X1_canShare (l : Launch) (D : va_G) (cI cC cM : ClassId) (aq aqh aqw aqs aqu ap apk apq apr : Nat) (qgone : Int32) (qmet : Int32) (qstill : Int32) (qdone : Int32) (qhour : (Nat → Int32)) (qworn : (Nat → Int32)) (qsquare : (Nat → Int32)) (qunder : (Nat → Int32)) (psq : Int32) (ppa : Int32) (ppe : Int32) (pwo : Int32) (pkind : (Nat → Int32)) (pwsq : (Nat → Int32)) (pwhr : (Nat → Int32)) (i : Int32) (j : Int32) (rr : Int32) (hF : f_X1_canShare qsquare qunder ppe i j = some rr) : CI l D cI cC cM yX1_canShare wsX1_canShare rm_X1_canShare [.ref aq, .int i, .int j] [(aq, .inr (1, [.ref ap, .int qgone, .int qmet, .int qstill, .int qdone, .ref aqh, .ref aqw, .ref aqs, .ref aqu])), (aqh, .inl (cI, 6, .inl qhour)), (aqw, .inl (cI, 6, .inl qworn)), (aqs, .inl (cI, 5, .inl qsquare)), (aqu, .inl (cI, 5, .inl qunder)), (ap, .inr (2, [.int psq, .int ppa, .int ppe, .int pwo, .ref apk, .ref apq, .ref apr])), (apk, .inl (cI, 6, .inl pkind)), (apq, .inl (cI, 6, .inl pwsq)), (apr, .inl (cI, 6, .inl pwhr))] [(aq, .inr (1, [.ref ap, .int qgone, .int qmet, .int qstill, .int qdone, .ref aqh, .ref aqw, .ref aqs, .ref aqu])), (aqh, .inl (cI, 6, .inl qhour)), (aqw, .inl (cI, 6, .inl qworn)), (aqs, .inl (cI, 5, .inl qsquare)), (aqu, .inl (cI, 5, .inl qunder)), (ap, .inr (2, [.int psq, .int ppa, .int ppe, .int pwo, .ref apk, .ref apq, .ref apr])), (apk, .inl (cI, 6, .inl pkind)), (apq, .inl (cI, 6, .inl pwsq)), (apr, .inl (cI, 6, .inl pwhr))] rr := by
  refine CI.of (cc := cX1_canShare) (nL := 4) (ret := (some .boolean)) (by decide) rfl (Nat.le_of_ble_eq_true rfl) ?_
  intro p e s m args below meth c A hC hP hD hS ls hl
  obtain ⟨hx, hb, hml, hown, hts, hr, hlk, hG, hA⟩ := id hC
  have hown : s.vm.findClass RX1 = some m.cls := hown
  have hK := hG.1
  have hl : lv_has ls 4 [(0, .ref aq), (1, .int i), (2, .int j)] := hl
  obtain ⟨Q, hQ⟩ : ∃ Q, Q = MQ below (QI D [(aq, .inr (1, [.ref ap, .int qgone, .int qmet, .int qstill, .int qdone, .ref aqh, .ref aqw, .ref aqs, .ref aqu])), (aqh, .inl (cI, 6, .inl qhour)), (aqw, .inl (cI, 6, .inl qworn)), (aqs, .inl (cI, 5, .inl qsquare)), (aqu, .inl (cI, 5, .inl qunder)), (ap, .inr (2, [.int psq, .int ppa, .int ppe, .int pwo, .ref apk, .ref apq, .ref apr])), (apk, .inl (cI, 6, .inl pkind)), (apq, .inl (cI, 6, .inl pwsq)), (apr, .inl (cI, 6, .inl pwhr))] rr A) args s 0 0 A := ⟨_, rfl⟩
  rw [← hQ]
  unfold f_X1_canShare at hF
  refine lv_aload_n hx hb dX1_canShare_0 rfl (lv_at hl 0 rfl) ?_
  refine lv_iload_n hx hb dX1_canShare_1 rfl (lv_at hl 2 rfl) ?_
  obtain ⟨r1, hb2, hF⟩ := op_bind hF
  refine xVr (As := [.int j]) (rest := []) hC hP hD hS [0, 1, 2, 3, 4, 5, 6, 7, 8] (c_X1_parasolOf l D cI cC cM aq aqh aqw aqs aqu ap apk apq apr qgone qmet qstill qdone qhour qworn qsquare qunder psq ppa ppe pwo pkind pwsq pwhr j r1 hb2) (cwV 1 hts gX1_canShare_X1_parasolOf rfl rfl rfl ⟨rfl, pd_X1_parasolOf⟩ ⟨Nat.le_of_ble_eq_true rfl, Nat.le_of_ble_eq_true rfl⟩) rfl rfl 0 1 rfl rfl rfl rfl hl.1 rfl (Nat.le_of_ble_eq_true rfl) dX1_canShare_2 ⟨Nat.zero_le _, Nat.zero_le _⟩ (fun H locs hP hS => ?_)
  refine lv_istore_n (lv' := [(3, .int r1), (0, .ref aq), (1, .int i), (2, .int j)]) hx hb dX1_canShare_5 rfl hl (by decide) rfl (fun ls hl => ?_)
  refine lv_iload_n hx hb dX1_canShare_6 rfl (lv_at hl 2 rfl) ?_
  refine lv_iload_n hx hb dX1_canShare_7 rfl (lv_at hl 3 rfl) ?_
  refine lv_icmp_eq (tgt := 56) hx hb dX1_canShare_8 (by decide) (fun c3 => ?_) (fun c3 => ?_)
  · have hF := op_pos c3 hF
    refine lv_iconst (v := (0 : Int32)) hx hb dX1_canShare_56 (by decide) ?_
    cases hF
    rw [hQ]
    exact xrz hC rfl hP hS dX1_canShare_57
  · have hF := op_neg c3 hF
    refine lv_aload_n hx hb dX1_canShare_11 rfl (lv_at hl 1 rfl) ?_
    refine lv_iload_n hx hb dX1_canShare_12 rfl (lv_at hl 2 rfl) ?_
    obtain ⟨r4, hb5, hF⟩ := op_bind hF
    refine xVr (As := [.int i]) (rest := []) hC hP hD hS [0, 1, 2, 3, 4, 5, 6, 7, 8] (c_X1_parasolOf l D cI cC cM aq aqh aqw aqs aqu ap apk apq apr qgone qmet qstill qdone qhour qworn qsquare qunder psq ppa ppe pwo pkind pwsq pwhr i r4 hb5) (cwV 1 hts gX1_canShare_X1_parasolOf rfl rfl rfl ⟨rfl, pd_X1_parasolOf⟩ ⟨Nat.le_of_ble_eq_true rfl, Nat.le_of_ble_eq_true rfl⟩) rfl rfl 0 1 rfl rfl rfl rfl hl.1 rfl (Nat.le_of_ble_eq_true rfl) dX1_canShare_13 ⟨Nat.zero_le _, Nat.zero_le _⟩ (fun H locs hP hS => ?_)
    refine lv_bipush (v := (-4 : Int32)) hx hb dX1_canShare_16 (by decide) ?_
    refine lv_icmp_ne (tgt := 56) hx hb dX1_canShare_18 (by decide) (fun c6 => ?_) (fun c6 => ?_)
    · have hF := op_neg c6 hF
      refine lv_iconst (v := (0 : Int32)) hx hb dX1_canShare_56 (by decide) ?_
      cases hF
      rw [hQ]
      exact xrz hC rfl hP hS dX1_canShare_57
    · have hF := op_pos c6 hF
      refine lv_iload_n hx hb dX1_canShare_21 rfl (lv_at hl 0 rfl) ?_
      refine lv_bipush (v := (-4 : Int32)) hx hb dX1_canShare_22 (by decide) ?_
      refine lv_icmp_eq (tgt := 56) hx hb dX1_canShare_24 (by decide) (fun c7 => ?_) (fun c7 => ?_)
      · have hF := op_pos c7 hF
        refine lv_iconst (v := (0 : Int32)) hx hb dX1_canShare_56 (by decide) ?_
        cases hF
        rw [hQ]
        exact xrz hC rfl hP hS dX1_canShare_57
      · have hF := op_neg c7 hF
        refine lv_aload_n hx hb dX1_canShare_27 rfl (lv_at hl 1 rfl) ?_
        refine lv_iload_n hx hb dX1_canShare_28 rfl (lv_at hl 2 rfl) ?_
        obtain ⟨r8, hb9, hF⟩ := op_bind hF
        refine xVr (As := [.int i]) (rest := []) hC hP hD hS [0, 1, 2, 3, 4, 5, 6, 7, 8] (c_X1_squareOf l D cI cC cM aq aqh aqw aqs aqu ap apk apq apr qgone qmet qstill qdone qhour qworn qsquare qunder psq ppa ppe pwo pkind pwsq pwhr i r8 hb9) (cwV 1 hts gX1_canShare_X1_squareOf rfl rfl rfl ⟨rfl, pd_X1_squareOf⟩ ⟨Nat.le_of_ble_eq_true rfl, Nat.le_of_ble_eq_true rfl⟩) rfl rfl 0 1 rfl rfl rfl rfl hl.1 rfl (Nat.le_of_ble_eq_true rfl) dX1_canShare_29 ⟨Nat.zero_le _, Nat.zero_le _⟩ (fun H locs hP hS => ?_)
        refine lv_aload_n hx hb dX1_canShare_32 rfl (lv_at hl 1 rfl) ?_
        refine lv_iload_n hx hb dX1_canShare_33 rfl (lv_at hl 3 rfl) ?_
        obtain ⟨r10, hb11, hF⟩ := op_bind hF
        refine xVr (As := [.int j]) (rest := [.int r8]) hC hP hD hS [0, 1, 2, 3, 4, 5, 6, 7, 8] (c_X1_squareOf l D cI cC cM aq aqh aqw aqs aqu ap apk apq apr qgone qmet qstill qdone qhour qworn qsquare qunder psq ppa ppe pwo pkind pwsq pwhr j r10 hb11) (cwV 1 hts gX1_canShare_X1_squareOf rfl rfl rfl ⟨rfl, pd_X1_squareOf⟩ ⟨Nat.le_of_ble_eq_true rfl, Nat.le_of_ble_eq_true rfl⟩) rfl rfl 0 1 rfl rfl rfl rfl hl.1 rfl (Nat.le_of_ble_eq_true rfl) dX1_canShare_34 ⟨Nat.zero_le _, Nat.zero_le _⟩ (fun H locs hP hS => ?_)
        refine lv_icmp_ne (tgt := 56) hx hb dX1_canShare_37 (by decide) (fun c12 => ?_) (fun c12 => ?_)
        · have hF := op_neg c12 hF
          refine lv_iconst (v := (0 : Int32)) hx hb dX1_canShare_56 (by decide) ?_
          cases hF
          rw [hQ]
          exact xrz hC rfl hP hS dX1_canShare_57
        · have hF := op_pos c12 hF
          refine lv_aload_n hx hb dX1_canShare_40 rfl (lv_at hl 1 rfl) ?_
          refine lv_iload_n hx hb dX1_canShare_41 rfl (lv_at hl 0 rfl) ?_
          obtain ⟨r13, hb14, hF⟩ := op_bind hF
          refine xVr (As := [.int r1]) (rest := []) hC hP hD hS [0, 1, 2, 3, 4, 5, 6, 7, 8] (c_X1_bearersOf l D cI cC cM aq aqh aqw aqs aqu ap apk apq apr qgone qmet qstill qdone qhour qworn qsquare qunder psq ppa ppe pwo pkind pwsq pwhr r1 r13 hb14) (cwV 1 hts gX1_canShare_X1_bearersOf rfl rfl rfl ⟨rfl, pd_X1_bearersOf⟩ ⟨Nat.le_of_ble_eq_true rfl, Nat.le_of_ble_eq_true rfl⟩) rfl rfl 0 1 rfl rfl rfl rfl hl.1 rfl (Nat.le_of_ble_eq_true rfl) dX1_canShare_42 ⟨Nat.zero_le _, Nat.zero_le _⟩ (fun H locs hP hS => ?_)
          obtain ⟨r15, hb16, hF⟩ := op_bind hF
          refine xSr (As := [.int r13]) (rest := []) hC hP hD hS [] (c_J6_bitCount_0f7a4 l D cI cC cM r13 r15 hb16) (va_cwS 1 hts gX1_canShare_J6_bitCount_0f7a4 rfl rfl rfl pd_J6_bitCount_0f7a4 ⟨Nat.le_of_ble_eq_true rfl, Nat.le_of_ble_eq_true rfl⟩) rfl rfl rfl hl.1 rfl (Nat.le_of_ble_eq_true rfl) dX1_canShare_45 ⟨Nat.zero_le _, Nat.zero_le _⟩ (fun H locs hP hS => ?_)
          refine lv_iconst (v := (2 : Int32)) hx hb dX1_canShare_48 (by decide) ?_
          refine lv_icmp_ge (tgt := 56) hx hb dX1_canShare_49 (by decide) (fun c17 => ?_) (fun c17 => ?_)
          · have hF := op_pos c17 hF
            refine lv_iconst (v := (0 : Int32)) hx hb dX1_canShare_56 (by decide) ?_
            cases hF
            rw [hQ]
            exact xrz hC rfl hP hS dX1_canShare_57
          · have hF := op_neg c17 hF
            refine lv_iconst (v := (1 : Int32)) hx hb dX1_canShare_52 (by decide) ?_
            refine lv_goto (tgt := 57) hx hb dX1_canShare_53 (by decide) ?_
            cases hF
            rw [hQ]
            exact xrz hC rfl hP hS dX1_canShare_57

def f_X1_doShare (qstill : Int32) (qunder : (Nat → Int32)) (i : Int32) (j : Int32) : Option (Int32 × (Nat → Int32)) := (Option.bind (f_X1_parasolOf qunder j) fun r1 => (Option.bind (f_X7_put 5 qunder i r1) fun f_3 => (some ((qstill &&& (((1 : Int32) <<< (i &&& 31)) ^^^ (-1 : Int32))), f_3))))

def rm_X1_doShare : Room := { frames := 2, cells := 0, slots := 0, locals := 42 }

theorem pd_X1_doShare : yX1_doShare.cls ≠ "java/lang/invoke/MethodHandle" ∧ yX1_doShare.cls ≠ "java/lang/invoke/VarHandle" ∧ (parseMethodDescriptor yX1_doShare.desc).map (fun d => d.parameters.length) = some 2 := by decide +kernel

set_option maxHeartbeats 4000000 in
set_option maxRecDepth 100000 in
theorem c_X1_doShare (l : Launch) (D : va_G) (cI cC cM : ClassId) (aq aqh aqw aqs aqu ap apk apq apr : Nat) (qgone : Int32) (qmet : Int32) (qstill : Int32) (qdone : Int32) (qhour : (Nat → Int32)) (qworn : (Nat → Int32)) (qsquare : (Nat → Int32)) (qunder : (Nat → Int32)) (psq : Int32) (ppa : Int32) (ppe : Int32) (pwo : Int32) (pkind : (Nat → Int32)) (pwsq : (Nat → Int32)) (pwhr : (Nat → Int32)) (i : Int32) (j : Int32) (qstill' : Int32) (qunder' : (Nat → Int32)) (hF : f_X1_doShare qstill qunder i j = some (qstill', qunder')) : CV l D cI cC cM yX1_doShare wsX1_doShare rm_X1_doShare [.ref aq, .int i, .int j] [(aq, .inr (1, [.ref ap, .int qgone, .int qmet, .int qstill, .int qdone, .ref aqh, .ref aqw, .ref aqs, .ref aqu])), (aqh, .inl (cI, 6, .inl qhour)), (aqw, .inl (cI, 6, .inl qworn)), (aqs, .inl (cI, 5, .inl qsquare)), (aqu, .inl (cI, 5, .inl qunder)), (ap, .inr (2, [.int psq, .int ppa, .int ppe, .int pwo, .ref apk, .ref apq, .ref apr])), (apk, .inl (cI, 6, .inl pkind)), (apq, .inl (cI, 6, .inl pwsq)), (apr, .inl (cI, 6, .inl pwhr))] [(aq, .inr (1, [.ref ap, .int qgone, .int qmet, .int qstill', .int qdone, .ref aqh, .ref aqw, .ref aqs, .ref aqu])), (aqh, .inl (cI, 6, .inl qhour)), (aqw, .inl (cI, 6, .inl qworn)), (aqs, .inl (cI, 5, .inl qsquare)), (aqu, .inl (cI, 5, .inl qunder')), (ap, .inr (2, [.int psq, .int ppa, .int ppe, .int pwo, .ref apk, .ref apq, .ref apr])), (apk, .inl (cI, 6, .inl pkind)), (apq, .inl (cI, 6, .inl pwsq)), (apr, .inl (cI, 6, .inl pwhr))] := by
  refine CV.of (cc := cX1_doShare) (nL := 3) (ret := none) (by decide) rfl (Nat.le_of_ble_eq_true rfl) ?_
  intro p e s m args below meth c A hC hP hD hS ls hl
  obtain ⟨hx, hb, hml, hown, hts, hr, hlk, hG, hA⟩ := id hC
  have hown : s.vm.findClass RX1 = some m.cls := hown
  have hK := hG.1
  have hl : lv_has ls 3 [(0, .ref aq), (1, .int i), (2, .int j)] := hl
  have k_f21 := hts (.fieldLink RX1 21 "ParasolHours$Moment" "under" "[I") (List.mem_of_getElem? (i := 1) rfl)
  have k_st_put := hts (.static yX7_put) (List.mem_of_getElem? (i := 11) rfl)
  have k_in_X7 := hts (.initialized RX7) (List.mem_of_getElem? (i := 9) rfl)
  have k_f35 := hts (.fieldLink RX1 35 "ParasolHours$Moment" "stillBits" "I") (List.mem_of_getElem? (i := 2) rfl)
  have iX1 : ∀ w ∈ wsX10, w ∈ wsX1_doShare := by decide +kernel
  obtain ⟨Q, hQ⟩ : ∃ Q, Q = MQ below (QV D [(aq, .inr (1, [.ref ap, .int qgone, .int qmet, .int qstill', .int qdone, .ref aqh, .ref aqw, .ref aqs, .ref aqu])), (aqh, .inl (cI, 6, .inl qhour)), (aqw, .inl (cI, 6, .inl qworn)), (aqs, .inl (cI, 5, .inl qsquare)), (aqu, .inl (cI, 5, .inl qunder')), (ap, .inr (2, [.int psq, .int ppa, .int ppe, .int pwo, .ref apk, .ref apq, .ref apr])), (apk, .inl (cI, 6, .inl pkind)), (apq, .inl (cI, 6, .inl pwsq)), (apr, .inl (cI, 6, .inl pwhr))] A) args s 0 0 A := ⟨_, rfl⟩
  rw [← hQ]
  unfold f_X1_doShare at hF
  refine lv_aload_n hx hb dX1_doShare_0 rfl (lv_at hl 0 rfl) ?_
  refine va_get (D := D) (ci := 1) (v := .ref aqu) (C := RX1) (T := TX1) (N := 9) hx hb hts iX1 hown hK hP 0 rfl rfl 8 (by decide) k_f21 (fun _ h9 => h9) rfl dX1_doShare_1 ?_
  refine lv_iload_n hx hb dX1_doShare_4 rfl (lv_at hl 1 rfl) ?_
  refine lv_aload_n hx hb dX1_doShare_5 rfl (lv_at hl 0 rfl) ?_
  refine lv_iload_n hx hb dX1_doShare_6 rfl (lv_at hl 2 rfl) ?_
  obtain ⟨r1, hb2, hF⟩ := op_bind hF
  refine xVr (As := [.int j]) (rest := [.int i, .ref aqu]) hC hP hD hS [0, 1, 2, 3, 4, 5, 6, 7, 8] (c_X1_parasolOf l D cI cC cM aq aqh aqw aqs aqu ap apk apq apr qgone qmet qstill qdone qhour qworn qsquare qunder psq ppa ppe pwo pkind pwsq pwhr j r1 hb2) (cwV 1 hts gX1_doShare_X1_parasolOf rfl rfl rfl ⟨rfl, pd_X1_parasolOf⟩ ⟨Nat.le_of_ble_eq_true rfl, Nat.le_of_ble_eq_true rfl⟩) rfl rfl 0 1 rfl rfl rfl rfl hl.1 rfl (Nat.le_of_ble_eq_true rfl) dX1_doShare_7 ⟨Nat.zero_le _, Nat.zero_le _⟩ (fun H locs hP hS => ?_)
  obtain ⟨f_3, hb4, hF⟩ := op_bind hF
  refine xNv (As := [.ref aqu, .int i, .int r1]) (rest := []) hC hP hD hS [4] (c_X7_put l D cI cC cM aqu 5 qunder i r1 f_3 hb4) ⟨va_cnB 3 hts gX1_doShare_X7_put_n100 rfl rfl rfl (hG.nw 14 rfl) k_in_X7 pd_X7_put ⟨Nat.le_of_ble_eq_true rfl, Nat.le_of_ble_eq_true rfl⟩, k_st_put, trivial⟩ rfl rfl rfl rfl hl.1 rfl (Nat.le_of_ble_eq_true rfl) dX1_doShare_10 ⟨Nat.zero_le _, Nat.zero_le _⟩ (fun H locs hP hD hS => ?_)
  have hP : va_P D vwCl [(aq, .inr (1, [.ref ap, .int qgone, .int qmet, .int qstill, .int qdone, .ref aqh, .ref aqw, .ref aqs, .ref aqu])), (aqh, .inl (cI, 6, .inl qhour)), (aqw, .inl (cI, 6, .inl qworn)), (aqs, .inl (cI, 5, .inl qsquare)), (aqu, .inl (cI, 5, .inl f_3)), (ap, .inr (2, [.int psq, .int ppa, .int ppe, .int pwo, .ref apk, .ref apq, .ref apr])), (apk, .inl (cI, 6, .inl pkind)), (apq, .inl (cI, 6, .inl pwsq)), (apr, .inl (cI, 6, .inl pwhr))] H := hP
  have hD : va_D A [(aq, .inr (1, [.ref ap, .int qgone, .int qmet, .int qstill, .int qdone, .ref aqh, .ref aqw, .ref aqs, .ref aqu])), (aqh, .inl (cI, 6, .inl qhour)), (aqw, .inl (cI, 6, .inl qworn)), (aqs, .inl (cI, 5, .inl qsquare)), (aqu, .inl (cI, 5, .inl f_3)), (ap, .inr (2, [.int psq, .int ppa, .int ppe, .int pwo, .ref apk, .ref apq, .ref apr])), (apk, .inl (cI, 6, .inl pkind)), (apq, .inl (cI, 6, .inl pwsq)), (apr, .inl (cI, 6, .inl pwhr))] := hD
  refine lv_aload_n hx hb dX1_doShare_13 rfl (lv_at hl 0 rfl) ?_
  refine lv_dup hx hb dX1_doShare_14 rfl ?_
  refine va_get (D := D) (ci := 1) (v := .int qstill) (C := RX1) (T := TX1) (N := 9) hx hb hts iX1 hown hK hP 0 rfl rfl 3 (by decide) k_f35 (fun _ h9 => h9) rfl dX1_doShare_15 ?_
  refine lv_iconst (v := (1 : Int32)) hx hb dX1_doShare_18 (by decide) ?_
  refine lv_iload_n hx hb dX1_doShare_19 rfl (lv_at hl 1 rfl) ?_
  refine lv_ishl hx hb dX1_doShare_20 ?_
  refine lv_iconst (v := (-1 : Int32)) hx hb dX1_doShare_21 (by decide) ?_
  refine lv_ixor hx hb dX1_doShare_22 ?_
  refine lv_iand hx hb dX1_doShare_23 ?_
  refine va_put (D := D) (ci := 1) (v := .int (qstill &&& (((1 : Int32) <<< (i &&& 31)) ^^^ (-1 : Int32)))) (ty := .int) (C := RX1) (T := TX1) (N := 9) hx hb hts iX1 tyX1 tyX1_ok nmX1 hown hK hP hD hS 0 rfl rfl 3 (by decide) k_f35 (fun _ h9 => h9) rfl (by decide +kernel) rfl rfl (Nat.le_of_ble_eq_true rfl) dX1_doShare_24 (fun H locs hP hD hS => ?_)
  have hP : va_P D vwCl [(aq, .inr (1, [.ref ap, .int qgone, .int qmet, .int (qstill &&& (((1 : Int32) <<< (i &&& 31)) ^^^ (-1 : Int32))), .int qdone, .ref aqh, .ref aqw, .ref aqs, .ref aqu])), (aqh, .inl (cI, 6, .inl qhour)), (aqw, .inl (cI, 6, .inl qworn)), (aqs, .inl (cI, 5, .inl qsquare)), (aqu, .inl (cI, 5, .inl f_3)), (ap, .inr (2, [.int psq, .int ppa, .int ppe, .int pwo, .ref apk, .ref apq, .ref apr])), (apk, .inl (cI, 6, .inl pkind)), (apq, .inl (cI, 6, .inl pwsq)), (apr, .inl (cI, 6, .inl pwhr))] H := hP
  have hD : va_D A [(aq, .inr (1, [.ref ap, .int qgone, .int qmet, .int (qstill &&& (((1 : Int32) <<< (i &&& 31)) ^^^ (-1 : Int32))), .int qdone, .ref aqh, .ref aqw, .ref aqs, .ref aqu])), (aqh, .inl (cI, 6, .inl qhour)), (aqw, .inl (cI, 6, .inl qworn)), (aqs, .inl (cI, 5, .inl qsquare)), (aqu, .inl (cI, 5, .inl f_3)), (ap, .inr (2, [.int psq, .int ppa, .int ppe, .int pwo, .ref apk, .ref apq, .ref apr])), (apk, .inl (cI, 6, .inl pkind)), (apq, .inl (cI, 6, .inl pwsq)), (apr, .inl (cI, 6, .inl pwhr))] := hD
  cases hF
  rw [hQ]
  exact xrv hC hP hS dX1_doShare_27

def f_X1_canGive (qsquare : (Nat → Int32)) (qunder : (Nat → Int32)) (ppe : Int32) (i : Int32) : Option Int32 := (Option.bind (f_X1_parasolOf qunder i) fun r1 => (if r1 = (-4 : Int32) then (some (0 : Int32)) else (Option.bind (f_X1_squareOf qsquare i) fun r4 => (if r4 = 0 then (some (1 : Int32)) else (Option.bind (f_X1_bearersOf qunder ppe r1) fun r7 => (Option.bind (f_J6_bitCount_0f7a4 r7) fun r9 => (if r9 ≤ (1 : Int32) then (some (0 : Int32)) else (some (1 : Int32)))))))))

def rm_X1_canGive : Room := { frames := 3, cells := 0, slots := 0, locals := 65 }

theorem pd_X1_canGive : yX1_canGive.cls ≠ "java/lang/invoke/MethodHandle" ∧ yX1_canGive.cls ≠ "java/lang/invoke/VarHandle" ∧ (parseMethodDescriptor yX1_canGive.desc).map (fun d => d.parameters.length) = some 1 := by decide +kernel

set_option maxHeartbeats 4000000 in
set_option maxRecDepth 100000 in
theorem c_X1_canGive (l : Launch) (D : va_G) (cI cC cM : ClassId) (aq aqh aqw aqs aqu ap apk apq apr : Nat) (qgone : Int32) (qmet : Int32) (qstill : Int32) (qdone : Int32) (qhour : (Nat → Int32)) (qworn : (Nat → Int32)) (qsquare : (Nat → Int32)) (qunder : (Nat → Int32)) (psq : Int32) (ppa : Int32) (ppe : Int32) (pwo : Int32) (pkind : (Nat → Int32)) (pwsq : (Nat → Int32)) (pwhr : (Nat → Int32)) (i : Int32) (rr : Int32) (hF : f_X1_canGive qsquare qunder ppe i = some rr) : CI l D cI cC cM yX1_canGive wsX1_canGive rm_X1_canGive [.ref aq, .int i] [(aq, .inr (1, [.ref ap, .int qgone, .int qmet, .int qstill, .int qdone, .ref aqh, .ref aqw, .ref aqs, .ref aqu])), (aqh, .inl (cI, 6, .inl qhour)), (aqw, .inl (cI, 6, .inl qworn)), (aqs, .inl (cI, 5, .inl qsquare)), (aqu, .inl (cI, 5, .inl qunder)), (ap, .inr (2, [.int psq, .int ppa, .int ppe, .int pwo, .ref apk, .ref apq, .ref apr])), (apk, .inl (cI, 6, .inl pkind)), (apq, .inl (cI, 6, .inl pwsq)), (apr, .inl (cI, 6, .inl pwhr))] [(aq, .inr (1, [.ref ap, .int qgone, .int qmet, .int qstill, .int qdone, .ref aqh, .ref aqw, .ref aqs, .ref aqu])), (aqh, .inl (cI, 6, .inl qhour)), (aqw, .inl (cI, 6, .inl qworn)), (aqs, .inl (cI, 5, .inl qsquare)), (aqu, .inl (cI, 5, .inl qunder)), (ap, .inr (2, [.int psq, .int ppa, .int ppe, .int pwo, .ref apk, .ref apq, .ref apr])), (apk, .inl (cI, 6, .inl pkind)), (apq, .inl (cI, 6, .inl pwsq)), (apr, .inl (cI, 6, .inl pwhr))] rr := by
  refine CI.of (cc := cX1_canGive) (nL := 3) (ret := (some .boolean)) (by decide) rfl (Nat.le_of_ble_eq_true rfl) ?_
  intro p e s m args below meth c A hC hP hD hS ls hl
  obtain ⟨hx, hb, hml, hown, hts, hr, hlk, hG, hA⟩ := id hC
  have hown : s.vm.findClass RX1 = some m.cls := hown
  have hK := hG.1
  have hl : lv_has ls 3 [(0, .ref aq), (1, .int i)] := hl
  obtain ⟨Q, hQ⟩ : ∃ Q, Q = MQ below (QI D [(aq, .inr (1, [.ref ap, .int qgone, .int qmet, .int qstill, .int qdone, .ref aqh, .ref aqw, .ref aqs, .ref aqu])), (aqh, .inl (cI, 6, .inl qhour)), (aqw, .inl (cI, 6, .inl qworn)), (aqs, .inl (cI, 5, .inl qsquare)), (aqu, .inl (cI, 5, .inl qunder)), (ap, .inr (2, [.int psq, .int ppa, .int ppe, .int pwo, .ref apk, .ref apq, .ref apr])), (apk, .inl (cI, 6, .inl pkind)), (apq, .inl (cI, 6, .inl pwsq)), (apr, .inl (cI, 6, .inl pwhr))] rr A) args s 0 0 A := ⟨_, rfl⟩
  rw [← hQ]
  unfold f_X1_canGive at hF
  refine lv_aload_n hx hb dX1_canGive_0 rfl (lv_at hl 0 rfl) ?_
  refine lv_iload_n hx hb dX1_canGive_1 rfl (lv_at hl 1 rfl) ?_
  obtain ⟨r1, hb2, hF⟩ := op_bind hF
  refine xVr (As := [.int i]) (rest := []) hC hP hD hS [0, 1, 2, 3, 4, 5, 6, 7, 8] (c_X1_parasolOf l D cI cC cM aq aqh aqw aqs aqu ap apk apq apr qgone qmet qstill qdone qhour qworn qsquare qunder psq ppa ppe pwo pkind pwsq pwhr i r1 hb2) (cwV 1 hts gX1_canGive_X1_parasolOf rfl rfl rfl ⟨rfl, pd_X1_parasolOf⟩ ⟨Nat.le_of_ble_eq_true rfl, Nat.le_of_ble_eq_true rfl⟩) rfl rfl 0 1 rfl rfl rfl rfl hl.1 rfl (Nat.le_of_ble_eq_true rfl) dX1_canGive_2 ⟨Nat.zero_le _, Nat.zero_le _⟩ (fun H locs hP hS => ?_)
  refine lv_istore_n (lv' := [(2, .int r1), (0, .ref aq), (1, .int i)]) hx hb dX1_canGive_5 rfl hl (by decide) rfl (fun ls hl => ?_)
  refine lv_iload_n hx hb dX1_canGive_6 rfl (lv_at hl 0 rfl) ?_
  refine lv_bipush (v := (-4 : Int32)) hx hb dX1_canGive_7 (by decide) ?_
  refine lv_icmp_eq (tgt := 36) hx hb dX1_canGive_9 (by decide) (fun c3 => ?_) (fun c3 => ?_)
  · have hF := op_pos c3 hF
    refine lv_iconst (v := (0 : Int32)) hx hb dX1_canGive_36 (by decide) ?_
    cases hF
    rw [hQ]
    exact xrz hC rfl hP hS dX1_canGive_37
  · have hF := op_neg c3 hF
    refine lv_aload_n hx hb dX1_canGive_12 rfl (lv_at hl 1 rfl) ?_
    refine lv_iload_n hx hb dX1_canGive_13 rfl (lv_at hl 2 rfl) ?_
    obtain ⟨r4, hb5, hF⟩ := op_bind hF
    refine xVr (As := [.int i]) (rest := []) hC hP hD hS [0, 1, 2, 3, 4, 5, 6, 7, 8] (c_X1_squareOf l D cI cC cM aq aqh aqw aqs aqu ap apk apq apr qgone qmet qstill qdone qhour qworn qsquare qunder psq ppa ppe pwo pkind pwsq pwhr i r4 hb5) (cwV 1 hts gX1_canGive_X1_squareOf rfl rfl rfl ⟨rfl, pd_X1_squareOf⟩ ⟨Nat.le_of_ble_eq_true rfl, Nat.le_of_ble_eq_true rfl⟩) rfl rfl 0 1 rfl rfl rfl rfl hl.1 rfl (Nat.le_of_ble_eq_true rfl) dX1_canGive_14 ⟨Nat.zero_le _, Nat.zero_le _⟩ (fun H locs hP hS => ?_)
    refine lv_if_eq (tgt := 32) hx hb dX1_canGive_17 (by decide) (fun c6 => ?_) (fun c6 => ?_)
    · have hF := op_pos c6 hF
      refine lv_iconst (v := (1 : Int32)) hx hb dX1_canGive_32 (by decide) ?_
      refine lv_goto (tgt := 37) hx hb dX1_canGive_33 (by decide) ?_
      cases hF
      rw [hQ]
      exact xrz hC rfl hP hS dX1_canGive_37
    · have hF := op_neg c6 hF
      refine lv_aload_n hx hb dX1_canGive_20 rfl (lv_at hl 1 rfl) ?_
      refine lv_iload_n hx hb dX1_canGive_21 rfl (lv_at hl 0 rfl) ?_
      obtain ⟨r7, hb8, hF⟩ := op_bind hF
      refine xVr (As := [.int r1]) (rest := []) hC hP hD hS [0, 1, 2, 3, 4, 5, 6, 7, 8] (c_X1_bearersOf l D cI cC cM aq aqh aqw aqs aqu ap apk apq apr qgone qmet qstill qdone qhour qworn qsquare qunder psq ppa ppe pwo pkind pwsq pwhr r1 r7 hb8) (cwV 1 hts gX1_canGive_X1_bearersOf rfl rfl rfl ⟨rfl, pd_X1_bearersOf⟩ ⟨Nat.le_of_ble_eq_true rfl, Nat.le_of_ble_eq_true rfl⟩) rfl rfl 0 1 rfl rfl rfl rfl hl.1 rfl (Nat.le_of_ble_eq_true rfl) dX1_canGive_22 ⟨Nat.zero_le _, Nat.zero_le _⟩ (fun H locs hP hS => ?_)
      obtain ⟨r9, hb10, hF⟩ := op_bind hF
      refine xSr (As := [.int r7]) (rest := []) hC hP hD hS [] (c_J6_bitCount_0f7a4 l D cI cC cM r7 r9 hb10) (va_cwS 1 hts gX1_canGive_J6_bitCount_0f7a4 rfl rfl rfl pd_J6_bitCount_0f7a4 ⟨Nat.le_of_ble_eq_true rfl, Nat.le_of_ble_eq_true rfl⟩) rfl rfl rfl hl.1 rfl (Nat.le_of_ble_eq_true rfl) dX1_canGive_25 ⟨Nat.zero_le _, Nat.zero_le _⟩ (fun H locs hP hS => ?_)
      refine lv_iconst (v := (1 : Int32)) hx hb dX1_canGive_28 (by decide) ?_
      refine lv_icmp_le (tgt := 36) hx hb dX1_canGive_29 (by decide) (fun c11 => ?_) (fun c11 => ?_)
      · have hF := op_pos c11 hF
        refine lv_iconst (v := (0 : Int32)) hx hb dX1_canGive_36 (by decide) ?_
        cases hF
        rw [hQ]
        exact xrz hC rfl hP hS dX1_canGive_37
      · have hF := op_neg c11 hF
        refine lv_iconst (v := (1 : Int32)) hx hb dX1_canGive_32 (by decide) ?_
        refine lv_goto (tgt := 37) hx hb dX1_canGive_33 (by decide) ?_
        cases hF
        rw [hQ]
        exact xrz hC rfl hP hS dX1_canGive_37

def f_X1_doGive (qunder : (Nat → Int32)) (i : Int32) : Option (Nat → Int32) := (Option.bind (f_X7_put 5 qunder i (-4 : Int32)) fun f_1 => (some f_1))

def rm_X1_doGive : Room := { frames := 1, cells := 0, slots := 0, locals := 22 }

theorem pd_X1_doGive : yX1_doGive.cls ≠ "java/lang/invoke/MethodHandle" ∧ yX1_doGive.cls ≠ "java/lang/invoke/VarHandle" ∧ (parseMethodDescriptor yX1_doGive.desc).map (fun d => d.parameters.length) = some 1 := by decide +kernel

set_option maxHeartbeats 4000000 in
set_option maxRecDepth 100000 in
theorem c_X1_doGive (l : Launch) (D : va_G) (cI cC cM : ClassId) (aq aqh aqw aqs aqu ap apk apq apr : Nat) (qgone : Int32) (qmet : Int32) (qstill : Int32) (qdone : Int32) (qhour : (Nat → Int32)) (qworn : (Nat → Int32)) (qsquare : (Nat → Int32)) (qunder : (Nat → Int32)) (psq : Int32) (ppa : Int32) (ppe : Int32) (pwo : Int32) (pkind : (Nat → Int32)) (pwsq : (Nat → Int32)) (pwhr : (Nat → Int32)) (i : Int32) (qunder' : (Nat → Int32)) (hF : f_X1_doGive qunder i = some qunder') : CV l D cI cC cM yX1_doGive wsX1_doGive rm_X1_doGive [.ref aq, .int i] [(aq, .inr (1, [.ref ap, .int qgone, .int qmet, .int qstill, .int qdone, .ref aqh, .ref aqw, .ref aqs, .ref aqu])), (aqh, .inl (cI, 6, .inl qhour)), (aqw, .inl (cI, 6, .inl qworn)), (aqs, .inl (cI, 5, .inl qsquare)), (aqu, .inl (cI, 5, .inl qunder)), (ap, .inr (2, [.int psq, .int ppa, .int ppe, .int pwo, .ref apk, .ref apq, .ref apr])), (apk, .inl (cI, 6, .inl pkind)), (apq, .inl (cI, 6, .inl pwsq)), (apr, .inl (cI, 6, .inl pwhr))] [(aq, .inr (1, [.ref ap, .int qgone, .int qmet, .int qstill, .int qdone, .ref aqh, .ref aqw, .ref aqs, .ref aqu])), (aqh, .inl (cI, 6, .inl qhour)), (aqw, .inl (cI, 6, .inl qworn)), (aqs, .inl (cI, 5, .inl qsquare)), (aqu, .inl (cI, 5, .inl qunder')), (ap, .inr (2, [.int psq, .int ppa, .int ppe, .int pwo, .ref apk, .ref apq, .ref apr])), (apk, .inl (cI, 6, .inl pkind)), (apq, .inl (cI, 6, .inl pwsq)), (apr, .inl (cI, 6, .inl pwhr))] := by
  refine CV.of (cc := cX1_doGive) (nL := 2) (ret := none) (by decide) rfl (Nat.le_of_ble_eq_true rfl) ?_
  intro p e s m args below meth c A hC hP hD hS ls hl
  obtain ⟨hx, hb, hml, hown, hts, hr, hlk, hG, hA⟩ := id hC
  have hown : s.vm.findClass RX1 = some m.cls := hown
  have hK := hG.1
  have hl : lv_has ls 2 [(0, .ref aq), (1, .int i)] := hl
  have k_f21 := hts (.fieldLink RX1 21 "ParasolHours$Moment" "under" "[I") (List.mem_of_getElem? (i := 1) rfl)
  have k_st_put := hts (.static yX7_put) (List.mem_of_getElem? (i := 2) rfl)
  have k_in_X7 := hts (.initialized RX7) (List.mem_of_getElem? (i := 3) rfl)
  have iX1 : ∀ w ∈ wsX10, w ∈ wsX1_doGive := by decide +kernel
  obtain ⟨Q, hQ⟩ : ∃ Q, Q = MQ below (QV D [(aq, .inr (1, [.ref ap, .int qgone, .int qmet, .int qstill, .int qdone, .ref aqh, .ref aqw, .ref aqs, .ref aqu])), (aqh, .inl (cI, 6, .inl qhour)), (aqw, .inl (cI, 6, .inl qworn)), (aqs, .inl (cI, 5, .inl qsquare)), (aqu, .inl (cI, 5, .inl qunder')), (ap, .inr (2, [.int psq, .int ppa, .int ppe, .int pwo, .ref apk, .ref apq, .ref apr])), (apk, .inl (cI, 6, .inl pkind)), (apq, .inl (cI, 6, .inl pwsq)), (apr, .inl (cI, 6, .inl pwhr))] A) args s 0 0 A := ⟨_, rfl⟩
  rw [← hQ]
  unfold f_X1_doGive at hF
  refine lv_aload_n hx hb dX1_doGive_0 rfl (lv_at hl 0 rfl) ?_
  refine va_get (D := D) (ci := 1) (v := .ref aqu) (C := RX1) (T := TX1) (N := 9) hx hb hts iX1 hown hK hP 0 rfl rfl 8 (by decide) k_f21 (fun _ h9 => h9) rfl dX1_doGive_1 ?_
  refine lv_iload_n hx hb dX1_doGive_4 rfl (lv_at hl 1 rfl) ?_
  refine lv_bipush (v := (-4 : Int32)) hx hb dX1_doGive_5 (by decide) ?_
  obtain ⟨f_1, hb2, hF⟩ := op_bind hF
  refine xNv (As := [.ref aqu, .int i, .int (-4 : Int32)]) (rest := []) hC hP hD hS [4] (c_X7_put l D cI cC cM aqu 5 qunder i (-4 : Int32) f_1 hb2) ⟨va_cnB 3 hts gX1_doGive_X7_put_n100 rfl rfl rfl (hG.nw 14 rfl) k_in_X7 pd_X7_put ⟨Nat.le_of_ble_eq_true rfl, Nat.le_of_ble_eq_true rfl⟩, k_st_put, trivial⟩ rfl rfl rfl rfl hl.1 rfl (Nat.le_of_ble_eq_true rfl) dX1_doGive_7 ⟨Nat.zero_le _, Nat.zero_le _⟩ (fun H locs hP hD hS => ?_)
  have hP : va_P D vwCl [(aq, .inr (1, [.ref ap, .int qgone, .int qmet, .int qstill, .int qdone, .ref aqh, .ref aqw, .ref aqs, .ref aqu])), (aqh, .inl (cI, 6, .inl qhour)), (aqw, .inl (cI, 6, .inl qworn)), (aqs, .inl (cI, 5, .inl qsquare)), (aqu, .inl (cI, 5, .inl f_1)), (ap, .inr (2, [.int psq, .int ppa, .int ppe, .int pwo, .ref apk, .ref apq, .ref apr])), (apk, .inl (cI, 6, .inl pkind)), (apq, .inl (cI, 6, .inl pwsq)), (apr, .inl (cI, 6, .inl pwhr))] H := hP
  have hD : va_D A [(aq, .inr (1, [.ref ap, .int qgone, .int qmet, .int qstill, .int qdone, .ref aqh, .ref aqw, .ref aqs, .ref aqu])), (aqh, .inl (cI, 6, .inl qhour)), (aqw, .inl (cI, 6, .inl qworn)), (aqs, .inl (cI, 5, .inl qsquare)), (aqu, .inl (cI, 5, .inl f_1)), (ap, .inr (2, [.int psq, .int ppa, .int ppe, .int pwo, .ref apk, .ref apq, .ref apr])), (apk, .inl (cI, 6, .inl pkind)), (apq, .inl (cI, 6, .inl pwsq)), (apr, .inl (cI, 6, .inl pwhr))] := hD
  cases hF
  rw [hQ]
  exact xrv hC hP hS dX1_doGive_10

def f_X1_nextSquareOf (qsquare : (Nat → Int32)) (i : Int32) (w : Int32) : Option Int32 := (if w = 0 then (Option.bind (f_X1_squareOf qsquare i) fun r4 => (some (r4 + (1 : Int32)))) else (Option.bind (f_X1_squareOf qsquare i) fun r2 => (some (r2 - (1 : Int32)))))

def rm_X1_nextSquareOf : Room := { frames := 2, cells := 0, slots := 0, locals := 42 }

theorem pd_X1_nextSquareOf : yX1_nextSquareOf.cls ≠ "java/lang/invoke/MethodHandle" ∧ yX1_nextSquareOf.cls ≠ "java/lang/invoke/VarHandle" ∧ (parseMethodDescriptor yX1_nextSquareOf.desc).map (fun d => d.parameters.length) = some 2 := by decide +kernel

set_option maxHeartbeats 4000000 in
set_option maxRecDepth 100000 in
theorem c_X1_nextSquareOf (l : Launch) (D : va_G) (cI cC cM : ClassId) (aq aqh aqw aqs aqu ap apk apq apr : Nat) (qgone : Int32) (qmet : Int32) (qstill : Int32) (qdone : Int32) (qhour : (Nat → Int32)) (qworn : (Nat → Int32)) (qsquare : (Nat → Int32)) (qunder : (Nat → Int32)) (psq : Int32) (ppa : Int32) (ppe : Int32) (pwo : Int32) (pkind : (Nat → Int32)) (pwsq : (Nat → Int32)) (pwhr : (Nat → Int32)) (i : Int32) (w : Int32) (rr : Int32) (hF : f_X1_nextSquareOf qsquare i w = some rr) : CI l D cI cC cM yX1_nextSquareOf wsX1_nextSquareOf rm_X1_nextSquareOf [.ref aq, .int i, .int w] [(aq, .inr (1, [.ref ap, .int qgone, .int qmet, .int qstill, .int qdone, .ref aqh, .ref aqw, .ref aqs, .ref aqu])), (aqh, .inl (cI, 6, .inl qhour)), (aqw, .inl (cI, 6, .inl qworn)), (aqs, .inl (cI, 5, .inl qsquare)), (aqu, .inl (cI, 5, .inl qunder)), (ap, .inr (2, [.int psq, .int ppa, .int ppe, .int pwo, .ref apk, .ref apq, .ref apr])), (apk, .inl (cI, 6, .inl pkind)), (apq, .inl (cI, 6, .inl pwsq)), (apr, .inl (cI, 6, .inl pwhr))] [(aq, .inr (1, [.ref ap, .int qgone, .int qmet, .int qstill, .int qdone, .ref aqh, .ref aqw, .ref aqs, .ref aqu])), (aqh, .inl (cI, 6, .inl qhour)), (aqw, .inl (cI, 6, .inl qworn)), (aqs, .inl (cI, 5, .inl qsquare)), (aqu, .inl (cI, 5, .inl qunder)), (ap, .inr (2, [.int psq, .int ppa, .int ppe, .int pwo, .ref apk, .ref apq, .ref apr])), (apk, .inl (cI, 6, .inl pkind)), (apq, .inl (cI, 6, .inl pwsq)), (apr, .inl (cI, 6, .inl pwhr))] rr := by
  refine CI.of (cc := cX1_nextSquareOf) (nL := 3) (ret := (some .int)) (by decide) rfl (Nat.le_of_ble_eq_true rfl) ?_
  intro p e s m args below meth c A hC hP hD hS ls hl
  obtain ⟨hx, hb, hml, hown, hts, hr, hlk, hG, hA⟩ := id hC
  have hown : s.vm.findClass RX1 = some m.cls := hown
  have hK := hG.1
  have hl : lv_has ls 3 [(0, .ref aq), (1, .int i), (2, .int w)] := hl
  obtain ⟨Q, hQ⟩ : ∃ Q, Q = MQ below (QI D [(aq, .inr (1, [.ref ap, .int qgone, .int qmet, .int qstill, .int qdone, .ref aqh, .ref aqw, .ref aqs, .ref aqu])), (aqh, .inl (cI, 6, .inl qhour)), (aqw, .inl (cI, 6, .inl qworn)), (aqs, .inl (cI, 5, .inl qsquare)), (aqu, .inl (cI, 5, .inl qunder)), (ap, .inr (2, [.int psq, .int ppa, .int ppe, .int pwo, .ref apk, .ref apq, .ref apr])), (apk, .inl (cI, 6, .inl pkind)), (apq, .inl (cI, 6, .inl pwsq)), (apr, .inl (cI, 6, .inl pwhr))] rr A) args s 0 0 A := ⟨_, rfl⟩
  rw [← hQ]
  unfold f_X1_nextSquareOf at hF
  refine lv_iload_n hx hb dX1_nextSquareOf_0 rfl (lv_at hl 2 rfl) ?_
  refine lv_if_ne (tgt := 14) hx hb dX1_nextSquareOf_1 (by decide) (fun c1 => ?_) (fun c1 => ?_)
  · have hF := op_neg c1 hF
    refine lv_aload_n hx hb dX1_nextSquareOf_14 rfl (lv_at hl 0 rfl) ?_
    refine lv_iload_n hx hb dX1_nextSquareOf_15 rfl (lv_at hl 1 rfl) ?_
    obtain ⟨r2, hb3, hF⟩ := op_bind hF
    refine xVr (As := [.int i]) (rest := []) hC hP hD hS [0, 1, 2, 3, 4, 5, 6, 7, 8] (c_X1_squareOf l D cI cC cM aq aqh aqw aqs aqu ap apk apq apr qgone qmet qstill qdone qhour qworn qsquare qunder psq ppa ppe pwo pkind pwsq pwhr i r2 hb3) (cwV 1 hts gX1_nextSquareOf_X1_squareOf rfl rfl rfl ⟨rfl, pd_X1_squareOf⟩ ⟨Nat.le_of_ble_eq_true rfl, Nat.le_of_ble_eq_true rfl⟩) rfl rfl 0 1 rfl rfl rfl rfl hl.1 rfl (Nat.le_of_ble_eq_true rfl) dX1_nextSquareOf_16 ⟨Nat.zero_le _, Nat.zero_le _⟩ (fun H locs hP hS => ?_)
    refine lv_iconst (v := (1 : Int32)) hx hb dX1_nextSquareOf_19 (by decide) ?_
    refine lv_isub hx hb dX1_nextSquareOf_20 ?_
    cases hF
    rw [hQ]
    exact xri hC hP hS dX1_nextSquareOf_21
  · have hF := op_pos c1 hF
    refine lv_aload_n hx hb dX1_nextSquareOf_4 rfl (lv_at hl 0 rfl) ?_
    refine lv_iload_n hx hb dX1_nextSquareOf_5 rfl (lv_at hl 1 rfl) ?_
    obtain ⟨r4, hb5, hF⟩ := op_bind hF
    refine xVr (As := [.int i]) (rest := []) hC hP hD hS [0, 1, 2, 3, 4, 5, 6, 7, 8] (c_X1_squareOf l D cI cC cM aq aqh aqw aqs aqu ap apk apq apr qgone qmet qstill qdone qhour qworn qsquare qunder psq ppa ppe pwo pkind pwsq pwhr i r4 hb5) (cwV 1 hts gX1_nextSquareOf_X1_squareOf rfl rfl rfl ⟨rfl, pd_X1_squareOf⟩ ⟨Nat.le_of_ble_eq_true rfl, Nat.le_of_ble_eq_true rfl⟩) rfl rfl 0 1 rfl rfl rfl rfl hl.1 rfl (Nat.le_of_ble_eq_true rfl) dX1_nextSquareOf_6 ⟨Nat.zero_le _, Nat.zero_le _⟩ (fun H locs hP hS => ?_)
    refine lv_iconst (v := (1 : Int32)) hx hb dX1_nextSquareOf_9 (by decide) ?_
    refine lv_iadd hx hb dX1_nextSquareOf_10 ?_
    refine lv_goto (tgt := 21) hx hb dX1_nextSquareOf_11 (by decide) ?_
    cases hF
    rw [hQ]
    exact xri hC hP hS dX1_nextSquareOf_21

def f_X1_canWalk (qstill : Int32) (qsquare : (Nat → Int32)) (psq : Int32) (i : Int32) (w : Int32) : Option Int32 := (Option.bind (f_X1_isStill qstill i) fun r1 => (if r1 = 0 then (Option.bind (f_X1_nextSquareOf qsquare i w) fun r4 => (Option.bind (f_X2_hasSquare psq r4) fun r6 => (if r6 = 0 then (some (0 : Int32)) else (some (1 : Int32))))) else (some (0 : Int32))))

def rm_X1_canWalk : Room := { frames := 3, cells := 0, slots := 0, locals := 64 }

theorem pd_X1_canWalk : yX1_canWalk.cls ≠ "java/lang/invoke/MethodHandle" ∧ yX1_canWalk.cls ≠ "java/lang/invoke/VarHandle" ∧ (parseMethodDescriptor yX1_canWalk.desc).map (fun d => d.parameters.length) = some 2 := by decide +kernel

set_option maxHeartbeats 4000000 in
set_option maxRecDepth 100000 in
theorem c_X1_canWalk (l : Launch) (D : va_G) (cI cC cM : ClassId) (aq aqh aqw aqs aqu ap apk apq apr : Nat) (qgone : Int32) (qmet : Int32) (qstill : Int32) (qdone : Int32) (qhour : (Nat → Int32)) (qworn : (Nat → Int32)) (qsquare : (Nat → Int32)) (qunder : (Nat → Int32)) (psq : Int32) (ppa : Int32) (ppe : Int32) (pwo : Int32) (pkind : (Nat → Int32)) (pwsq : (Nat → Int32)) (pwhr : (Nat → Int32)) (i : Int32) (w : Int32) (rr : Int32) (hF : f_X1_canWalk qstill qsquare psq i w = some rr) : CI l D cI cC cM yX1_canWalk wsX1_canWalk rm_X1_canWalk [.ref aq, .int i, .int w] [(aq, .inr (1, [.ref ap, .int qgone, .int qmet, .int qstill, .int qdone, .ref aqh, .ref aqw, .ref aqs, .ref aqu])), (aqh, .inl (cI, 6, .inl qhour)), (aqw, .inl (cI, 6, .inl qworn)), (aqs, .inl (cI, 5, .inl qsquare)), (aqu, .inl (cI, 5, .inl qunder)), (ap, .inr (2, [.int psq, .int ppa, .int ppe, .int pwo, .ref apk, .ref apq, .ref apr])), (apk, .inl (cI, 6, .inl pkind)), (apq, .inl (cI, 6, .inl pwsq)), (apr, .inl (cI, 6, .inl pwhr))] [(aq, .inr (1, [.ref ap, .int qgone, .int qmet, .int qstill, .int qdone, .ref aqh, .ref aqw, .ref aqs, .ref aqu])), (aqh, .inl (cI, 6, .inl qhour)), (aqw, .inl (cI, 6, .inl qworn)), (aqs, .inl (cI, 5, .inl qsquare)), (aqu, .inl (cI, 5, .inl qunder)), (ap, .inr (2, [.int psq, .int ppa, .int ppe, .int pwo, .ref apk, .ref apq, .ref apr])), (apk, .inl (cI, 6, .inl pkind)), (apq, .inl (cI, 6, .inl pwsq)), (apr, .inl (cI, 6, .inl pwhr))] rr := by
  refine CI.of (cc := cX1_canWalk) (nL := 3) (ret := (some .boolean)) (by decide) rfl (Nat.le_of_ble_eq_true rfl) ?_
  intro p e s m args below meth c A hC hP hD hS ls hl
  obtain ⟨hx, hb, hml, hown, hts, hr, hlk, hG, hA⟩ := id hC
  have hown : s.vm.findClass RX1 = some m.cls := hown
  have hK := hG.1
  have hl : lv_has ls 3 [(0, .ref aq), (1, .int i), (2, .int w)] := hl
  have k_f24 := hts (.fieldLink RX1 24 "ParasolHours$Moment" "plan" "LParasolHours$Plan;") (List.mem_of_getElem? (i := 1) rfl)
  have iX1 : ∀ w ∈ wsX10, w ∈ wsX1_canWalk := by decide +kernel
  obtain ⟨Q, hQ⟩ : ∃ Q, Q = MQ below (QI D [(aq, .inr (1, [.ref ap, .int qgone, .int qmet, .int qstill, .int qdone, .ref aqh, .ref aqw, .ref aqs, .ref aqu])), (aqh, .inl (cI, 6, .inl qhour)), (aqw, .inl (cI, 6, .inl qworn)), (aqs, .inl (cI, 5, .inl qsquare)), (aqu, .inl (cI, 5, .inl qunder)), (ap, .inr (2, [.int psq, .int ppa, .int ppe, .int pwo, .ref apk, .ref apq, .ref apr])), (apk, .inl (cI, 6, .inl pkind)), (apq, .inl (cI, 6, .inl pwsq)), (apr, .inl (cI, 6, .inl pwhr))] rr A) args s 0 0 A := ⟨_, rfl⟩
  rw [← hQ]
  unfold f_X1_canWalk at hF
  refine lv_aload_n hx hb dX1_canWalk_0 rfl (lv_at hl 0 rfl) ?_
  refine lv_iload_n hx hb dX1_canWalk_1 rfl (lv_at hl 1 rfl) ?_
  obtain ⟨r1, hb2, hF⟩ := op_bind hF
  refine xVr (As := [.int i]) (rest := []) hC hP hD hS [0, 1, 2, 3, 4, 5, 6, 7, 8] (c_X1_isStill l D cI cC cM aq aqh aqw aqs aqu ap apk apq apr qgone qmet qstill qdone qhour qworn qsquare qunder psq ppa ppe pwo pkind pwsq pwhr i r1 hb2) (cwV 1 hts gX1_canWalk_X1_isStill rfl rfl rfl ⟨rfl, pd_X1_isStill⟩ ⟨Nat.le_of_ble_eq_true rfl, Nat.le_of_ble_eq_true rfl⟩) rfl rfl 0 1 rfl rfl rfl rfl hl.1 rfl (Nat.le_of_ble_eq_true rfl) dX1_canWalk_2 ⟨Nat.zero_le _, Nat.zero_le _⟩ (fun H locs hP hS => ?_)
  refine lv_if_ne (tgt := 28) hx hb dX1_canWalk_5 (by decide) (fun c3 => ?_) (fun c3 => ?_)
  · have hF := op_neg c3 hF
    refine lv_iconst (v := (0 : Int32)) hx hb dX1_canWalk_28 (by decide) ?_
    cases hF
    rw [hQ]
    exact xrz hC rfl hP hS dX1_canWalk_29
  · have hF := op_pos c3 hF
    refine lv_aload_n hx hb dX1_canWalk_8 rfl (lv_at hl 0 rfl) ?_
    refine va_get (D := D) (ci := 1) (v := .ref ap) (C := RX1) (T := TX1) (N := 9) hx hb hts iX1 hown hK hP 0 rfl rfl 0 (by decide) k_f24 (fun _ h9 => h9) rfl dX1_canWalk_9 ?_
    refine lv_aload_n hx hb dX1_canWalk_12 rfl (lv_at hl 0 rfl) ?_
    refine lv_iload_n hx hb dX1_canWalk_13 rfl (lv_at hl 1 rfl) ?_
    refine lv_iload_n hx hb dX1_canWalk_14 rfl (lv_at hl 2 rfl) ?_
    obtain ⟨r4, hb5, hF⟩ := op_bind hF
    refine xVr (As := [.int i, .int w]) (rest := [.ref ap]) hC hP hD hS [0, 1, 2, 3, 4, 5, 6, 7, 8] (c_X1_nextSquareOf l D cI cC cM aq aqh aqw aqs aqu ap apk apq apr qgone qmet qstill qdone qhour qworn qsquare qunder psq ppa ppe pwo pkind pwsq pwhr i w r4 hb5) (cwV 2 hts gX1_canWalk_X1_nextSquareOf rfl rfl rfl ⟨rfl, pd_X1_nextSquareOf⟩ ⟨Nat.le_of_ble_eq_true rfl, Nat.le_of_ble_eq_true rfl⟩) rfl rfl 0 1 rfl rfl rfl rfl hl.1 rfl (Nat.le_of_ble_eq_true rfl) dX1_canWalk_15 ⟨Nat.zero_le _, Nat.zero_le _⟩ (fun H locs hP hS => ?_)
    obtain ⟨r6, hb7, hF⟩ := op_bind hF
    refine xVr (As := [.int r4]) (rest := []) hC hP hD hS [5, 6, 7, 8] (c_X2_hasSquare l D cI cC cM ap apk apq apr psq ppa ppe pwo pkind pwsq pwhr r4 r6 hb7) (cwV 1 hts gX1_canWalk_X2_hasSquare rfl rfl rfl ⟨rfl, pd_X2_hasSquare⟩ ⟨Nat.le_of_ble_eq_true rfl, Nat.le_of_ble_eq_true rfl⟩) rfl rfl 5 2 rfl rfl rfl rfl hl.1 rfl (Nat.le_of_ble_eq_true rfl) dX1_canWalk_18 ⟨Nat.zero_le _, Nat.zero_le _⟩ (fun H locs hP hS => ?_)
    refine lv_if_eq (tgt := 28) hx hb dX1_canWalk_21 (by decide) (fun c8 => ?_) (fun c8 => ?_)
    · have hF := op_pos c8 hF
      refine lv_iconst (v := (0 : Int32)) hx hb dX1_canWalk_28 (by decide) ?_
      cases hF
      rw [hQ]
      exact xrz hC rfl hP hS dX1_canWalk_29
    · have hF := op_neg c8 hF
      refine lv_iconst (v := (1 : Int32)) hx hb dX1_canWalk_24 (by decide) ?_
      refine lv_goto (tgt := 29) hx hb dX1_canWalk_25 (by decide) ?_
      cases hF
      rw [hQ]
      exact xrz hC rfl hP hS dX1_canWalk_29

def f_X1_doWalk_L39 (ppe : Int32) (i : Int32) (r1 : Int32) (k39 : Int32 → (Nat → Int32) → Option (Int32 × (Nat → Int32))) : Nat → Int32 → (Nat → Int32) → Option (Int32 × (Nat → Int32))
  | 0, _, _ => none
  | nf39 + 1, v6, qsquare_7 => (if ppe ≤ v6 then (k39 v6 qsquare_7) else (Option.bind (f_X7_hasBit ((1 : Int32) <<< (i &&& 31)) v6) fun r9 => (if r9 = 0 then (f_X1_doWalk_L39 ppe i r1 k39 nf39 (v6 + (1 : Int32)) qsquare_7) else (Option.bind (f_X7_put 5 qsquare_7 v6 r1) fun f_12 => (f_X1_doWalk_L39 ppe i r1 k39 nf39 (v6 + (1 : Int32)) f_12)))))
theorem f_X1_doWalk_L39_0 (ppe : Int32) (i : Int32) (r1 : Int32) (k39 : Int32 → (Nat → Int32) → Option (Int32 × (Nat → Int32))) (v6 : Int32) (qsquare_7 : (Nat → Int32)) : f_X1_doWalk_L39 ppe i r1 k39 0 v6 qsquare_7 = none := rfl
theorem f_X1_doWalk_L39_s (ppe : Int32) (i : Int32) (r1 : Int32) (k39 : Int32 → (Nat → Int32) → Option (Int32 × (Nat → Int32))) (nf39 : Nat) (v6 : Int32) (qsquare_7 : (Nat → Int32)) : f_X1_doWalk_L39 ppe i r1 k39 (nf39 + 1) v6 qsquare_7 = (if ppe ≤ v6 then (k39 v6 qsquare_7) else (Option.bind (f_X7_hasBit ((1 : Int32) <<< (i &&& 31)) v6) fun r9 => (if r9 = 0 then (f_X1_doWalk_L39 ppe i r1 k39 nf39 (v6 + (1 : Int32)) qsquare_7) else (Option.bind (f_X7_put 5 qsquare_7 v6 r1) fun f_12 => (f_X1_doWalk_L39 ppe i r1 k39 nf39 (v6 + (1 : Int32)) f_12))))) := rfl

def f_X1_doWalk_L39_2 (ppe : Int32) (i : Int32) (r16 : Int32) (r1 : Int32) (k39 : Int32 → (Nat → Int32) → Option (Int32 × (Nat → Int32))) : Nat → Int32 → (Nat → Int32) → Option (Int32 × (Nat → Int32))
  | 0, _, _ => none
  | nf39 + 1, v18, qsquare_19 => (if ppe ≤ v18 then (k39 v18 qsquare_19) else (Option.bind (f_X7_hasBit (((1 : Int32) <<< (i &&& 31)) ||| r16) v18) fun r21 => (if r21 = 0 then (f_X1_doWalk_L39_2 ppe i r16 r1 k39 nf39 (v18 + (1 : Int32)) qsquare_19) else (Option.bind (f_X7_put 5 qsquare_19 v18 r1) fun f_24 => (f_X1_doWalk_L39_2 ppe i r16 r1 k39 nf39 (v18 + (1 : Int32)) f_24)))))
theorem f_X1_doWalk_L39_2_0 (ppe : Int32) (i : Int32) (r16 : Int32) (r1 : Int32) (k39 : Int32 → (Nat → Int32) → Option (Int32 × (Nat → Int32))) (v18 : Int32) (qsquare_19 : (Nat → Int32)) : f_X1_doWalk_L39_2 ppe i r16 r1 k39 0 v18 qsquare_19 = none := rfl
theorem f_X1_doWalk_L39_2_s (ppe : Int32) (i : Int32) (r16 : Int32) (r1 : Int32) (k39 : Int32 → (Nat → Int32) → Option (Int32 × (Nat → Int32))) (nf39 : Nat) (v18 : Int32) (qsquare_19 : (Nat → Int32)) : f_X1_doWalk_L39_2 ppe i r16 r1 k39 (nf39 + 1) v18 qsquare_19 = (if ppe ≤ v18 then (k39 v18 qsquare_19) else (Option.bind (f_X7_hasBit (((1 : Int32) <<< (i &&& 31)) ||| r16) v18) fun r21 => (if r21 = 0 then (f_X1_doWalk_L39_2 ppe i r16 r1 k39 nf39 (v18 + (1 : Int32)) qsquare_19) else (Option.bind (f_X7_put 5 qsquare_19 v18 r1) fun f_24 => (f_X1_doWalk_L39_2 ppe i r16 r1 k39 nf39 (v18 + (1 : Int32)) f_24))))) := rfl

def f_X1_doWalk (qstill : Int32) (qsquare : (Nat → Int32)) (qunder : (Nat → Int32)) (ppe : Int32) (i : Int32) (w : Int32) : Option (Int32 × (Nat → Int32)) := (Option.bind (f_X1_nextSquareOf qsquare i w) fun r1 => (Option.bind (f_X1_parasolOf qunder i) fun r3 => (if r3 = (-4 : Int32) then (f_X1_doWalk_L39 ppe i r1 (fun (v6 : Int32) (qsquare_7 : (Nat → Int32)) => (some ((qstill &&& (((1 : Int32) <<< (i &&& 31)) ^^^ (-1 : Int32))), qsquare_7))) 20000 (0 : Int32) qsquare) else (Option.bind (f_X1_parasolOf qunder i) fun r14 => (Option.bind (f_X1_bearersOf qunder ppe r14) fun r16 => (f_X1_doWalk_L39_2 ppe i r16 r1 (fun (v18 : Int32) (qsquare_19 : (Nat → Int32)) => (some ((qstill &&& ((((1 : Int32) <<< (i &&& 31)) ||| r16) ^^^ (-1 : Int32))), qsquare_19))) 20000 (0 : Int32) qsquare))))))

def rm_X1_doWalk : Room := { frames := 3, cells := 0, slots := 0, locals := 65 }

theorem pd_X1_doWalk : yX1_doWalk.cls ≠ "java/lang/invoke/MethodHandle" ∧ yX1_doWalk.cls ≠ "java/lang/invoke/VarHandle" ∧ (parseMethodDescriptor yX1_doWalk.desc).map (fun d => d.parameters.length) = some 2 := by decide +kernel

set_option maxHeartbeats 4000000 in
set_option maxRecDepth 100000 in
theorem c_X1_doWalk (l : Launch) (D : va_G) (cI cC cM : ClassId) (aq aqh aqw aqs aqu ap apk apq apr : Nat) (qgone : Int32) (qmet : Int32) (qstill : Int32) (qdone : Int32) (qhour : (Nat → Int32)) (qworn : (Nat → Int32)) (qsquare : (Nat → Int32)) (qunder : (Nat → Int32)) (psq : Int32) (ppa : Int32) (ppe : Int32) (pwo : Int32) (pkind : (Nat → Int32)) (pwsq : (Nat → Int32)) (pwhr : (Nat → Int32)) (i : Int32) (w : Int32) (qstill' : Int32) (qsquare' : (Nat → Int32)) (hF : f_X1_doWalk qstill qsquare qunder ppe i w = some (qstill', qsquare')) : CV l D cI cC cM yX1_doWalk wsX1_doWalk rm_X1_doWalk [.ref aq, .int i, .int w] [(aq, .inr (1, [.ref ap, .int qgone, .int qmet, .int qstill, .int qdone, .ref aqh, .ref aqw, .ref aqs, .ref aqu])), (aqh, .inl (cI, 6, .inl qhour)), (aqw, .inl (cI, 6, .inl qworn)), (aqs, .inl (cI, 5, .inl qsquare)), (aqu, .inl (cI, 5, .inl qunder)), (ap, .inr (2, [.int psq, .int ppa, .int ppe, .int pwo, .ref apk, .ref apq, .ref apr])), (apk, .inl (cI, 6, .inl pkind)), (apq, .inl (cI, 6, .inl pwsq)), (apr, .inl (cI, 6, .inl pwhr))] [(aq, .inr (1, [.ref ap, .int qgone, .int qmet, .int qstill', .int qdone, .ref aqh, .ref aqw, .ref aqs, .ref aqu])), (aqh, .inl (cI, 6, .inl qhour)), (aqw, .inl (cI, 6, .inl qworn)), (aqs, .inl (cI, 5, .inl qsquare')), (aqu, .inl (cI, 5, .inl qunder)), (ap, .inr (2, [.int psq, .int ppa, .int ppe, .int pwo, .ref apk, .ref apq, .ref apr])), (apk, .inl (cI, 6, .inl pkind)), (apq, .inl (cI, 6, .inl pwsq)), (apr, .inl (cI, 6, .inl pwhr))] := by
  refine CV.of (cc := cX1_doWalk) (nL := 6) (ret := none) (by decide) rfl (Nat.le_of_ble_eq_true rfl) ?_
  intro p e s m args below meth c A hC hP hD hS ls hl
  obtain ⟨hx, hb, hml, hown, hts, hr, hlk, hG, hA⟩ := id hC
  have hown : s.vm.findClass RX1 = some m.cls := hown
  have hK := hG.1
  have hl : lv_has ls 6 [(0, .ref aq), (1, .int i), (2, .int w)] := hl
  have k_f24 := hts (.fieldLink RX1 24 "ParasolHours$Moment" "plan" "LParasolHours$Plan;") (List.mem_of_getElem? (i := 1) rfl)
  have k_f53 := hts (.fieldLink RX1 53 "ParasolHours$Plan" "persons" "I") (List.mem_of_getElem? (i := 2) rfl)
  have k_st_hasBit := hts (.static yX7_hasBit) (List.mem_of_getElem? (i := 26) rfl)
  have k_in_X7 := hts (.initialized RX7) (List.mem_of_getElem? (i := 15) rfl)
  have k_f18 := hts (.fieldLink RX1 18 "ParasolHours$Moment" "square" "[I") (List.mem_of_getElem? (i := 3) rfl)
  have k_st_put := hts (.static yX7_put) (List.mem_of_getElem? (i := 28) rfl)
  have k_f35 := hts (.fieldLink RX1 35 "ParasolHours$Moment" "stillBits" "I") (List.mem_of_getElem? (i := 4) rfl)
  have iX1 : ∀ w ∈ wsX10, w ∈ wsX1_doWalk := by decide +kernel
  have iX2 : ∀ w ∈ wsX20, w ∈ wsX1_doWalk := by decide +kernel
  obtain ⟨Q, hQ⟩ : ∃ Q, Q = MQ below (QV D [(aq, .inr (1, [.ref ap, .int qgone, .int qmet, .int qstill', .int qdone, .ref aqh, .ref aqw, .ref aqs, .ref aqu])), (aqh, .inl (cI, 6, .inl qhour)), (aqw, .inl (cI, 6, .inl qworn)), (aqs, .inl (cI, 5, .inl qsquare')), (aqu, .inl (cI, 5, .inl qunder)), (ap, .inr (2, [.int psq, .int ppa, .int ppe, .int pwo, .ref apk, .ref apq, .ref apr])), (apk, .inl (cI, 6, .inl pkind)), (apq, .inl (cI, 6, .inl pwsq)), (apr, .inl (cI, 6, .inl pwhr))] A) args s 0 0 A := ⟨_, rfl⟩
  rw [← hQ]
  unfold f_X1_doWalk at hF
  refine lv_aload_n hx hb dX1_doWalk_0 rfl (lv_at hl 0 rfl) ?_
  refine lv_iload_n hx hb dX1_doWalk_1 rfl (lv_at hl 1 rfl) ?_
  refine lv_iload_n hx hb dX1_doWalk_2 rfl (lv_at hl 2 rfl) ?_
  obtain ⟨r1, hb2, hF⟩ := op_bind hF
  refine xVr (As := [.int i, .int w]) (rest := []) hC hP hD hS [0, 1, 2, 3, 4, 5, 6, 7, 8] (c_X1_nextSquareOf l D cI cC cM aq aqh aqw aqs aqu ap apk apq apr qgone qmet qstill qdone qhour qworn qsquare qunder psq ppa ppe pwo pkind pwsq pwhr i w r1 hb2) (cwV 2 hts gX1_doWalk_X1_nextSquareOf rfl rfl rfl ⟨rfl, pd_X1_nextSquareOf⟩ ⟨Nat.le_of_ble_eq_true rfl, Nat.le_of_ble_eq_true rfl⟩) rfl rfl 0 1 rfl rfl rfl rfl hl.1 rfl (Nat.le_of_ble_eq_true rfl) dX1_doWalk_3 ⟨Nat.zero_le _, Nat.zero_le _⟩ (fun H locs hP hS => ?_)
  refine lv_istore_n (lv' := [(3, .int r1), (0, .ref aq), (1, .int i), (2, .int w)]) hx hb dX1_doWalk_6 rfl hl (by decide) rfl (fun ls hl => ?_)
  refine lv_iconst (v := (1 : Int32)) hx hb dX1_doWalk_7 (by decide) ?_
  refine lv_iload_n hx hb dX1_doWalk_8 rfl (lv_at hl 2 rfl) ?_
  refine lv_ishl hx hb dX1_doWalk_9 ?_
  refine lv_istore (lv' := [(4, .int ((1 : Int32) <<< (i &&& 31))), (3, .int r1), (0, .ref aq), (1, .int i), (2, .int w)]) hx hb dX1_doWalk_10 hl (by decide) rfl (fun ls hl => ?_)
  refine lv_aload_n hx hb dX1_doWalk_12 rfl (lv_at hl 2 rfl) ?_
  refine lv_iload_n hx hb dX1_doWalk_13 rfl (lv_at hl 3 rfl) ?_
  obtain ⟨r3, hb4, hF⟩ := op_bind hF
  refine xVr (As := [.int i]) (rest := []) hC hP hD hS [0, 1, 2, 3, 4, 5, 6, 7, 8] (c_X1_parasolOf l D cI cC cM aq aqh aqw aqs aqu ap apk apq apr qgone qmet qstill qdone qhour qworn qsquare qunder psq ppa ppe pwo pkind pwsq pwhr i r3 hb4) (cwV 1 hts gX1_doWalk_X1_parasolOf rfl rfl rfl ⟨rfl, pd_X1_parasolOf⟩ ⟨Nat.le_of_ble_eq_true rfl, Nat.le_of_ble_eq_true rfl⟩) rfl rfl 0 1 rfl rfl rfl rfl hl.1 rfl (Nat.le_of_ble_eq_true rfl) dX1_doWalk_14 ⟨Nat.zero_le _, Nat.zero_le _⟩ (fun H locs hP hS => ?_)
  refine lv_bipush (v := (-4 : Int32)) hx hb dX1_doWalk_17 (by decide) ?_
  refine lv_icmp_eq (tgt := 36) hx hb dX1_doWalk_19 (by decide) (fun c5 => ?_) (fun c5 => ?_)
  · have hF := op_pos c5 hF
    refine lv_iconst (v := (0 : Int32)) hx hb dX1_doWalk_36 (by decide) ?_
    refine lv_istore (lv' := [(5, .int (0 : Int32)), (4, .int ((1 : Int32) <<< (i &&& 31))), (3, .int r1), (0, .ref aq), (1, .int i), (2, .int w)]) hx hb dX1_doWalk_37 hl (by decide) rfl (fun ls hl => ?_)
    have hL39 : ∀ (k39 : Int32 → (Nat → Int32) → Option (Int32 × (Nat → Int32))), (∀ (v6 : Int32) (qsquare_7 : (Nat → Int32)) (H : Heap) (locs : List Loc), va_P D vwCl [(aq, .inr (1, [.ref ap, .int qgone, .int qmet, .int qstill, .int qdone, .ref aqh, .ref aqw, .ref aqs, .ref aqu])), (aqh, .inl (cI, 6, .inl qhour)), (aqw, .inl (cI, 6, .inl qworn)), (aqs, .inl (cI, 5, .inl qsquare_7)), (aqu, .inl (cI, 5, .inl qunder)), (ap, .inr (2, [.int psq, .int ppa, .int ppe, .int pwo, .ref apk, .ref apq, .ref apr])), (apk, .inl (cI, 6, .inl pkind)), (apq, .inl (cI, 6, .inl pwsq)), (apr, .inl (cI, 6, .inl pwhr))] H → va_D A [(aq, .inr (1, [.ref ap, .int qgone, .int qmet, .int qstill, .int qdone, .ref aqh, .ref aqw, .ref aqs, .ref aqu])), (aqh, .inl (cI, 6, .inl qhour)), (aqw, .inl (cI, 6, .inl qworn)), (aqs, .inl (cI, 5, .inl qsquare_7)), (aqu, .inl (cI, 5, .inl qunder)), (ap, .inr (2, [.int psq, .int ppa, .int ppe, .int pwo, .ref apk, .ref apq, .ref apr])), (apk, .inl (cI, 6, .inl pkind)), (apq, .inl (cI, 6, .inl pwsq)), (apr, .inl (cI, 6, .inl pwhr))] → va_S A s.heap H locs → ∀ ls : Array Slot, lv_has ls 6 [(4, .int ((1 : Int32) <<< (i &&& 31))), (0, .ref aq)] → k39 v6 qsquare_7 = some (qstill', qsquare') → W p l e rm_X1_doWalk s m args below meth c H locs 0 0 Q (F0 m 77 ls [])) → ∀ (nf39 : Nat) (v6 : Int32) (qsquare_7 : (Nat → Int32)) (H : Heap) (locs : List Loc), va_P D vwCl [(aq, .inr (1, [.ref ap, .int qgone, .int qmet, .int qstill, .int qdone, .ref aqh, .ref aqw, .ref aqs, .ref aqu])), (aqh, .inl (cI, 6, .inl qhour)), (aqw, .inl (cI, 6, .inl qworn)), (aqs, .inl (cI, 5, .inl qsquare_7)), (aqu, .inl (cI, 5, .inl qunder)), (ap, .inr (2, [.int psq, .int ppa, .int ppe, .int pwo, .ref apk, .ref apq, .ref apr])), (apk, .inl (cI, 6, .inl pkind)), (apq, .inl (cI, 6, .inl pwsq)), (apr, .inl (cI, 6, .inl pwhr))] H → va_D A [(aq, .inr (1, [.ref ap, .int qgone, .int qmet, .int qstill, .int qdone, .ref aqh, .ref aqw, .ref aqs, .ref aqu])), (aqh, .inl (cI, 6, .inl qhour)), (aqw, .inl (cI, 6, .inl qworn)), (aqs, .inl (cI, 5, .inl qsquare_7)), (aqu, .inl (cI, 5, .inl qunder)), (ap, .inr (2, [.int psq, .int ppa, .int ppe, .int pwo, .ref apk, .ref apq, .ref apr])), (apk, .inl (cI, 6, .inl pkind)), (apq, .inl (cI, 6, .inl pwsq)), (apr, .inl (cI, 6, .inl pwhr))] → va_S A s.heap H locs → ∀ ls : Array Slot, lv_has ls 6 [(5, .int v6), (4, .int ((1 : Int32) <<< (i &&& 31))), (3, .int r1), (0, .ref aq)] → f_X1_doWalk_L39 ppe i r1 k39 nf39 v6 qsquare_7 = some (qstill', qsquare') → W p l e rm_X1_doWalk s m args below meth c H locs 0 0 Q (F0 m 39 ls []) := by
      intro k39 hk39 nf39
      induction nf39 with
      | zero =>
        intro v6 qsquare_7 H locs hP hD hS ls hl hF
        rw [f_X1_doWalk_L39_0] at hF
        cases hF
      | succ nf39 ih39 =>
        intro v6 qsquare_7 H locs hP hD hS ls hl hF
        rw [f_X1_doWalk_L39_s] at hF
        refine lv_iload hx hb dX1_doWalk_39 (lv_at hl 0 rfl) ?_
        refine lv_aload_n hx hb dX1_doWalk_41 rfl (lv_at hl 3 rfl) ?_
        refine va_get (D := D) (ci := 1) (v := .ref ap) (C := RX1) (T := TX1) (N := 9) hx hb hts iX1 hown hK hP 0 rfl rfl 0 (by decide) k_f24 (fun _ h9 => h9) rfl dX1_doWalk_42 ?_
        refine va_get (D := D) (ci := 2) (v := .int ppe) (C := RX2) (T := TX2) (N := 7) hx hb hts iX2 hown hK hP 5 rfl rfl 2 (by decide) k_f53 (fun _ h9 => h9) rfl dX1_doWalk_45 ?_
        refine lv_icmp_ge (tgt := 77) hx hb dX1_doWalk_48 (by decide) (fun c8 => ?_) (fun c8 => ?_)
        · have hF := op_pos c8 hF
          exact hk39 v6 qsquare_7 _ _ hP hD hS _ (lv_sub hl [1, 3] rfl) hF
        · have hF := op_neg c8 hF
          refine lv_iload hx hb dX1_doWalk_51 (lv_at hl 1 rfl) ?_
          refine lv_iload hx hb dX1_doWalk_53 (lv_at hl 0 rfl) ?_
          obtain ⟨r9, hb10, hF⟩ := op_bind hF
          refine xNr (As := [.int ((1 : Int32) <<< (i &&& 31)), .int v6]) (rest := []) hC hP hD hS [] (c_X7_hasBit l D cI cC cM ((1 : Int32) <<< (i &&& 31)) v6 r9 hb10) ⟨va_cnB 2 hts gX1_doWalk_X7_hasBit_n49 rfl rfl rfl (hG.nw 13 rfl) k_in_X7 pd_X7_hasBit ⟨Nat.le_of_ble_eq_true rfl, Nat.le_of_ble_eq_true rfl⟩, k_st_hasBit, trivial⟩ rfl rfl rfl hl.1 rfl (Nat.le_of_ble_eq_true rfl) dX1_doWalk_55 ⟨Nat.zero_le _, Nat.zero_le _⟩ (fun H locs hP hS => ?_)
          refine lv_if_eq (tgt := 71) hx hb dX1_doWalk_58 (by decide) (fun c11 => ?_) (fun c11 => ?_)
          · have hF := op_pos c11 hF
            refine lv_iinc (v := (v6 + (1 : Int32))) (lv' := [(5, .int (v6 + (1 : Int32))), (4, .int ((1 : Int32) <<< (i &&& 31))), (3, .int r1), (0, .ref aq)]) hx hb dX1_doWalk_71 hl (k := 0) rfl (by first | rfl | decide) (by decide) rfl (fun ls hl => ?_)
            refine lv_goto (tgt := 39) hx hb dX1_doWalk_74 (by decide) ?_
            exact ih39 (v6 + (1 : Int32)) qsquare_7 _ _ hP hD hS _ (lv_sub hl [0, 1, 2, 3] rfl) hF
          · have hF := op_neg c11 hF
            refine lv_aload_n hx hb dX1_doWalk_61 rfl (lv_at hl 3 rfl) ?_
            refine va_get (D := D) (ci := 1) (v := .ref aqs) (C := RX1) (T := TX1) (N := 9) hx hb hts iX1 hown hK hP 0 rfl rfl 7 (by decide) k_f18 (fun _ h9 => h9) rfl dX1_doWalk_62 ?_
            refine lv_iload hx hb dX1_doWalk_65 (lv_at hl 0 rfl) ?_
            refine lv_iload_n hx hb dX1_doWalk_67 rfl (lv_at hl 2 rfl) ?_
            obtain ⟨f_12, hb13, hF⟩ := op_bind hF
            refine xNv (As := [.ref aqs, .int v6, .int r1]) (rest := []) hC hP hD hS [3] (c_X7_put l D cI cC cM aqs 5 qsquare_7 v6 r1 f_12 hb13) ⟨va_cnB 3 hts gX1_doWalk_X7_put_n100 rfl rfl rfl (hG.nw 14 rfl) k_in_X7 pd_X7_put ⟨Nat.le_of_ble_eq_true rfl, Nat.le_of_ble_eq_true rfl⟩, k_st_put, trivial⟩ rfl rfl rfl rfl hl.1 rfl (Nat.le_of_ble_eq_true rfl) dX1_doWalk_68 ⟨Nat.zero_le _, Nat.zero_le _⟩ (fun H locs hP hD hS => ?_)
            have hP : va_P D vwCl [(aq, .inr (1, [.ref ap, .int qgone, .int qmet, .int qstill, .int qdone, .ref aqh, .ref aqw, .ref aqs, .ref aqu])), (aqh, .inl (cI, 6, .inl qhour)), (aqw, .inl (cI, 6, .inl qworn)), (aqs, .inl (cI, 5, .inl f_12)), (aqu, .inl (cI, 5, .inl qunder)), (ap, .inr (2, [.int psq, .int ppa, .int ppe, .int pwo, .ref apk, .ref apq, .ref apr])), (apk, .inl (cI, 6, .inl pkind)), (apq, .inl (cI, 6, .inl pwsq)), (apr, .inl (cI, 6, .inl pwhr))] H := hP
            have hD : va_D A [(aq, .inr (1, [.ref ap, .int qgone, .int qmet, .int qstill, .int qdone, .ref aqh, .ref aqw, .ref aqs, .ref aqu])), (aqh, .inl (cI, 6, .inl qhour)), (aqw, .inl (cI, 6, .inl qworn)), (aqs, .inl (cI, 5, .inl f_12)), (aqu, .inl (cI, 5, .inl qunder)), (ap, .inr (2, [.int psq, .int ppa, .int ppe, .int pwo, .ref apk, .ref apq, .ref apr])), (apk, .inl (cI, 6, .inl pkind)), (apq, .inl (cI, 6, .inl pwsq)), (apr, .inl (cI, 6, .inl pwhr))] := hD
            refine lv_iinc (v := (v6 + (1 : Int32))) (lv' := [(5, .int (v6 + (1 : Int32))), (4, .int ((1 : Int32) <<< (i &&& 31))), (3, .int r1), (0, .ref aq)]) hx hb dX1_doWalk_71 hl (k := 0) rfl (by first | rfl | decide) (by decide) rfl (fun ls hl => ?_)
            refine lv_goto (tgt := 39) hx hb dX1_doWalk_74 (by decide) ?_
            exact ih39 (v6 + (1 : Int32)) f_12 _ _ hP hD hS _ (lv_sub hl [0, 1, 2, 3] rfl) hF
    refine hL39 _ (fun v6 qsquare_7 H locs hP hD hS ls hl hF => ?_) 20000 (0 : Int32) qsquare _ _ hP hD hS _ (lv_sub hl [0, 1, 2, 3] rfl) hF
    refine lv_aload_n hx hb dX1_doWalk_77 rfl (lv_at hl 1 rfl) ?_
    refine lv_dup hx hb dX1_doWalk_78 rfl ?_
    refine va_get (D := D) (ci := 1) (v := .int qstill) (C := RX1) (T := TX1) (N := 9) hx hb hts iX1 hown hK hP 0 rfl rfl 3 (by decide) k_f35 (fun _ h9 => h9) rfl dX1_doWalk_79 ?_
    refine lv_iload hx hb dX1_doWalk_82 (lv_at hl 0 rfl) ?_
    refine lv_iconst (v := (-1 : Int32)) hx hb dX1_doWalk_84 (by decide) ?_
    refine lv_ixor hx hb dX1_doWalk_85 ?_
    refine lv_iand hx hb dX1_doWalk_86 ?_
    refine va_put (D := D) (ci := 1) (v := .int (qstill &&& (((1 : Int32) <<< (i &&& 31)) ^^^ (-1 : Int32)))) (ty := .int) (C := RX1) (T := TX1) (N := 9) hx hb hts iX1 tyX1 tyX1_ok nmX1 hown hK hP hD hS 0 rfl rfl 3 (by decide) k_f35 (fun _ h9 => h9) rfl (by decide +kernel) rfl rfl (Nat.le_of_ble_eq_true rfl) dX1_doWalk_87 (fun H locs hP hD hS => ?_)
    have hP : va_P D vwCl [(aq, .inr (1, [.ref ap, .int qgone, .int qmet, .int (qstill &&& (((1 : Int32) <<< (i &&& 31)) ^^^ (-1 : Int32))), .int qdone, .ref aqh, .ref aqw, .ref aqs, .ref aqu])), (aqh, .inl (cI, 6, .inl qhour)), (aqw, .inl (cI, 6, .inl qworn)), (aqs, .inl (cI, 5, .inl qsquare_7)), (aqu, .inl (cI, 5, .inl qunder)), (ap, .inr (2, [.int psq, .int ppa, .int ppe, .int pwo, .ref apk, .ref apq, .ref apr])), (apk, .inl (cI, 6, .inl pkind)), (apq, .inl (cI, 6, .inl pwsq)), (apr, .inl (cI, 6, .inl pwhr))] H := hP
    have hD : va_D A [(aq, .inr (1, [.ref ap, .int qgone, .int qmet, .int (qstill &&& (((1 : Int32) <<< (i &&& 31)) ^^^ (-1 : Int32))), .int qdone, .ref aqh, .ref aqw, .ref aqs, .ref aqu])), (aqh, .inl (cI, 6, .inl qhour)), (aqw, .inl (cI, 6, .inl qworn)), (aqs, .inl (cI, 5, .inl qsquare_7)), (aqu, .inl (cI, 5, .inl qunder)), (ap, .inr (2, [.int psq, .int ppa, .int ppe, .int pwo, .ref apk, .ref apq, .ref apr])), (apk, .inl (cI, 6, .inl pkind)), (apq, .inl (cI, 6, .inl pwsq)), (apr, .inl (cI, 6, .inl pwhr))] := hD
    cases hF
    rw [hQ]
    exact xrv hC hP hS dX1_doWalk_90
  · have hF := op_neg c5 hF
    refine lv_iload hx hb dX1_doWalk_22 (lv_at hl 0 rfl) ?_
    refine lv_aload_n hx hb dX1_doWalk_24 rfl (lv_at hl 2 rfl) ?_
    refine lv_aload_n hx hb dX1_doWalk_25 rfl (lv_at hl 2 rfl) ?_
    refine lv_iload_n hx hb dX1_doWalk_26 rfl (lv_at hl 3 rfl) ?_
    obtain ⟨r14, hb15, hF⟩ := op_bind hF
    refine xVr (As := [.int i]) (rest := [.ref aq, .int ((1 : Int32) <<< (i &&& 31))]) hC hP hD hS [0, 1, 2, 3, 4, 5, 6, 7, 8] (c_X1_parasolOf l D cI cC cM aq aqh aqw aqs aqu ap apk apq apr qgone qmet qstill qdone qhour qworn qsquare qunder psq ppa ppe pwo pkind pwsq pwhr i r14 hb15) (cwV 1 hts gX1_doWalk_X1_parasolOf rfl rfl rfl ⟨rfl, pd_X1_parasolOf⟩ ⟨Nat.le_of_ble_eq_true rfl, Nat.le_of_ble_eq_true rfl⟩) rfl rfl 0 1 rfl rfl rfl rfl hl.1 rfl (Nat.le_of_ble_eq_true rfl) dX1_doWalk_27 ⟨Nat.zero_le _, Nat.zero_le _⟩ (fun H locs hP hS => ?_)
    obtain ⟨r16, hb17, hF⟩ := op_bind hF
    refine xVr (As := [.int r14]) (rest := [.int ((1 : Int32) <<< (i &&& 31))]) hC hP hD hS [0, 1, 2, 3, 4, 5, 6, 7, 8] (c_X1_bearersOf l D cI cC cM aq aqh aqw aqs aqu ap apk apq apr qgone qmet qstill qdone qhour qworn qsquare qunder psq ppa ppe pwo pkind pwsq pwhr r14 r16 hb17) (cwV 1 hts gX1_doWalk_X1_bearersOf rfl rfl rfl ⟨rfl, pd_X1_bearersOf⟩ ⟨Nat.le_of_ble_eq_true rfl, Nat.le_of_ble_eq_true rfl⟩) rfl rfl 0 1 rfl rfl rfl rfl hl.1 rfl (Nat.le_of_ble_eq_true rfl) dX1_doWalk_30 ⟨Nat.zero_le _, Nat.zero_le _⟩ (fun H locs hP hS => ?_)
    refine lv_ior hx hb dX1_doWalk_33 ?_
    refine lv_istore (lv' := [(4, .int (((1 : Int32) <<< (i &&& 31)) ||| r16)), (3, .int r1), (0, .ref aq), (1, .int i), (2, .int w)]) hx hb dX1_doWalk_34 hl (by decide) rfl (fun ls hl => ?_)
    refine lv_iconst (v := (0 : Int32)) hx hb dX1_doWalk_36 (by decide) ?_
    refine lv_istore (lv' := [(5, .int (0 : Int32)), (4, .int (((1 : Int32) <<< (i &&& 31)) ||| r16)), (3, .int r1), (0, .ref aq), (1, .int i), (2, .int w)]) hx hb dX1_doWalk_37 hl (by decide) rfl (fun ls hl => ?_)
    have hL39 : ∀ (k39 : Int32 → (Nat → Int32) → Option (Int32 × (Nat → Int32))), (∀ (v18 : Int32) (qsquare_19 : (Nat → Int32)) (H : Heap) (locs : List Loc), va_P D vwCl [(aq, .inr (1, [.ref ap, .int qgone, .int qmet, .int qstill, .int qdone, .ref aqh, .ref aqw, .ref aqs, .ref aqu])), (aqh, .inl (cI, 6, .inl qhour)), (aqw, .inl (cI, 6, .inl qworn)), (aqs, .inl (cI, 5, .inl qsquare_19)), (aqu, .inl (cI, 5, .inl qunder)), (ap, .inr (2, [.int psq, .int ppa, .int ppe, .int pwo, .ref apk, .ref apq, .ref apr])), (apk, .inl (cI, 6, .inl pkind)), (apq, .inl (cI, 6, .inl pwsq)), (apr, .inl (cI, 6, .inl pwhr))] H → va_D A [(aq, .inr (1, [.ref ap, .int qgone, .int qmet, .int qstill, .int qdone, .ref aqh, .ref aqw, .ref aqs, .ref aqu])), (aqh, .inl (cI, 6, .inl qhour)), (aqw, .inl (cI, 6, .inl qworn)), (aqs, .inl (cI, 5, .inl qsquare_19)), (aqu, .inl (cI, 5, .inl qunder)), (ap, .inr (2, [.int psq, .int ppa, .int ppe, .int pwo, .ref apk, .ref apq, .ref apr])), (apk, .inl (cI, 6, .inl pkind)), (apq, .inl (cI, 6, .inl pwsq)), (apr, .inl (cI, 6, .inl pwhr))] → va_S A s.heap H locs → ∀ ls : Array Slot, lv_has ls 6 [(4, .int (((1 : Int32) <<< (i &&& 31)) ||| r16)), (0, .ref aq)] → k39 v18 qsquare_19 = some (qstill', qsquare') → W p l e rm_X1_doWalk s m args below meth c H locs 0 0 Q (F0 m 77 ls [])) → ∀ (nf39 : Nat) (v18 : Int32) (qsquare_19 : (Nat → Int32)) (H : Heap) (locs : List Loc), va_P D vwCl [(aq, .inr (1, [.ref ap, .int qgone, .int qmet, .int qstill, .int qdone, .ref aqh, .ref aqw, .ref aqs, .ref aqu])), (aqh, .inl (cI, 6, .inl qhour)), (aqw, .inl (cI, 6, .inl qworn)), (aqs, .inl (cI, 5, .inl qsquare_19)), (aqu, .inl (cI, 5, .inl qunder)), (ap, .inr (2, [.int psq, .int ppa, .int ppe, .int pwo, .ref apk, .ref apq, .ref apr])), (apk, .inl (cI, 6, .inl pkind)), (apq, .inl (cI, 6, .inl pwsq)), (apr, .inl (cI, 6, .inl pwhr))] H → va_D A [(aq, .inr (1, [.ref ap, .int qgone, .int qmet, .int qstill, .int qdone, .ref aqh, .ref aqw, .ref aqs, .ref aqu])), (aqh, .inl (cI, 6, .inl qhour)), (aqw, .inl (cI, 6, .inl qworn)), (aqs, .inl (cI, 5, .inl qsquare_19)), (aqu, .inl (cI, 5, .inl qunder)), (ap, .inr (2, [.int psq, .int ppa, .int ppe, .int pwo, .ref apk, .ref apq, .ref apr])), (apk, .inl (cI, 6, .inl pkind)), (apq, .inl (cI, 6, .inl pwsq)), (apr, .inl (cI, 6, .inl pwhr))] → va_S A s.heap H locs → ∀ ls : Array Slot, lv_has ls 6 [(5, .int v18), (4, .int (((1 : Int32) <<< (i &&& 31)) ||| r16)), (3, .int r1), (0, .ref aq)] → f_X1_doWalk_L39_2 ppe i r16 r1 k39 nf39 v18 qsquare_19 = some (qstill', qsquare') → W p l e rm_X1_doWalk s m args below meth c H locs 0 0 Q (F0 m 39 ls []) := by
      intro k39 hk39 nf39
      induction nf39 with
      | zero =>
        intro v18 qsquare_19 H locs hP hD hS ls hl hF
        rw [f_X1_doWalk_L39_2_0] at hF
        cases hF
      | succ nf39 ih39 =>
        intro v18 qsquare_19 H locs hP hD hS ls hl hF
        rw [f_X1_doWalk_L39_2_s] at hF
        refine lv_iload hx hb dX1_doWalk_39 (lv_at hl 0 rfl) ?_
        refine lv_aload_n hx hb dX1_doWalk_41 rfl (lv_at hl 3 rfl) ?_
        refine va_get (D := D) (ci := 1) (v := .ref ap) (C := RX1) (T := TX1) (N := 9) hx hb hts iX1 hown hK hP 0 rfl rfl 0 (by decide) k_f24 (fun _ h9 => h9) rfl dX1_doWalk_42 ?_
        refine va_get (D := D) (ci := 2) (v := .int ppe) (C := RX2) (T := TX2) (N := 7) hx hb hts iX2 hown hK hP 5 rfl rfl 2 (by decide) k_f53 (fun _ h9 => h9) rfl dX1_doWalk_45 ?_
        refine lv_icmp_ge (tgt := 77) hx hb dX1_doWalk_48 (by decide) (fun c20 => ?_) (fun c20 => ?_)
        · have hF := op_pos c20 hF
          exact hk39 v18 qsquare_19 _ _ hP hD hS _ (lv_sub hl [1, 3] rfl) hF
        · have hF := op_neg c20 hF
          refine lv_iload hx hb dX1_doWalk_51 (lv_at hl 1 rfl) ?_
          refine lv_iload hx hb dX1_doWalk_53 (lv_at hl 0 rfl) ?_
          obtain ⟨r21, hb22, hF⟩ := op_bind hF
          refine xNr (As := [.int (((1 : Int32) <<< (i &&& 31)) ||| r16), .int v18]) (rest := []) hC hP hD hS [] (c_X7_hasBit l D cI cC cM (((1 : Int32) <<< (i &&& 31)) ||| r16) v18 r21 hb22) ⟨va_cnB 2 hts gX1_doWalk_X7_hasBit_n49 rfl rfl rfl (hG.nw 13 rfl) k_in_X7 pd_X7_hasBit ⟨Nat.le_of_ble_eq_true rfl, Nat.le_of_ble_eq_true rfl⟩, k_st_hasBit, trivial⟩ rfl rfl rfl hl.1 rfl (Nat.le_of_ble_eq_true rfl) dX1_doWalk_55 ⟨Nat.zero_le _, Nat.zero_le _⟩ (fun H locs hP hS => ?_)
          refine lv_if_eq (tgt := 71) hx hb dX1_doWalk_58 (by decide) (fun c23 => ?_) (fun c23 => ?_)
          · have hF := op_pos c23 hF
            refine lv_iinc (v := (v18 + (1 : Int32))) (lv' := [(5, .int (v18 + (1 : Int32))), (4, .int (((1 : Int32) <<< (i &&& 31)) ||| r16)), (3, .int r1), (0, .ref aq)]) hx hb dX1_doWalk_71 hl (k := 0) rfl (by first | rfl | decide) (by decide) rfl (fun ls hl => ?_)
            refine lv_goto (tgt := 39) hx hb dX1_doWalk_74 (by decide) ?_
            exact ih39 (v18 + (1 : Int32)) qsquare_19 _ _ hP hD hS _ (lv_sub hl [0, 1, 2, 3] rfl) hF
          · have hF := op_neg c23 hF
            refine lv_aload_n hx hb dX1_doWalk_61 rfl (lv_at hl 3 rfl) ?_
            refine va_get (D := D) (ci := 1) (v := .ref aqs) (C := RX1) (T := TX1) (N := 9) hx hb hts iX1 hown hK hP 0 rfl rfl 7 (by decide) k_f18 (fun _ h9 => h9) rfl dX1_doWalk_62 ?_
            refine lv_iload hx hb dX1_doWalk_65 (lv_at hl 0 rfl) ?_
            refine lv_iload_n hx hb dX1_doWalk_67 rfl (lv_at hl 2 rfl) ?_
            obtain ⟨f_24, hb25, hF⟩ := op_bind hF
            refine xNv (As := [.ref aqs, .int v18, .int r1]) (rest := []) hC hP hD hS [3] (c_X7_put l D cI cC cM aqs 5 qsquare_19 v18 r1 f_24 hb25) ⟨va_cnB 3 hts gX1_doWalk_X7_put_n100 rfl rfl rfl (hG.nw 14 rfl) k_in_X7 pd_X7_put ⟨Nat.le_of_ble_eq_true rfl, Nat.le_of_ble_eq_true rfl⟩, k_st_put, trivial⟩ rfl rfl rfl rfl hl.1 rfl (Nat.le_of_ble_eq_true rfl) dX1_doWalk_68 ⟨Nat.zero_le _, Nat.zero_le _⟩ (fun H locs hP hD hS => ?_)
            have hP : va_P D vwCl [(aq, .inr (1, [.ref ap, .int qgone, .int qmet, .int qstill, .int qdone, .ref aqh, .ref aqw, .ref aqs, .ref aqu])), (aqh, .inl (cI, 6, .inl qhour)), (aqw, .inl (cI, 6, .inl qworn)), (aqs, .inl (cI, 5, .inl f_24)), (aqu, .inl (cI, 5, .inl qunder)), (ap, .inr (2, [.int psq, .int ppa, .int ppe, .int pwo, .ref apk, .ref apq, .ref apr])), (apk, .inl (cI, 6, .inl pkind)), (apq, .inl (cI, 6, .inl pwsq)), (apr, .inl (cI, 6, .inl pwhr))] H := hP
            have hD : va_D A [(aq, .inr (1, [.ref ap, .int qgone, .int qmet, .int qstill, .int qdone, .ref aqh, .ref aqw, .ref aqs, .ref aqu])), (aqh, .inl (cI, 6, .inl qhour)), (aqw, .inl (cI, 6, .inl qworn)), (aqs, .inl (cI, 5, .inl f_24)), (aqu, .inl (cI, 5, .inl qunder)), (ap, .inr (2, [.int psq, .int ppa, .int ppe, .int pwo, .ref apk, .ref apq, .ref apr])), (apk, .inl (cI, 6, .inl pkind)), (apq, .inl (cI, 6, .inl pwsq)), (apr, .inl (cI, 6, .inl pwhr))] := hD
            refine lv_iinc (v := (v18 + (1 : Int32))) (lv' := [(5, .int (v18 + (1 : Int32))), (4, .int (((1 : Int32) <<< (i &&& 31)) ||| r16)), (3, .int r1), (0, .ref aq)]) hx hb dX1_doWalk_71 hl (k := 0) rfl (by first | rfl | decide) (by decide) rfl (fun ls hl => ?_)
            refine lv_goto (tgt := 39) hx hb dX1_doWalk_74 (by decide) ?_
            exact ih39 (v18 + (1 : Int32)) f_24 _ _ hP hD hS _ (lv_sub hl [0, 1, 2, 3] rfl) hF
    refine hL39 _ (fun v18 qsquare_19 H locs hP hD hS ls hl hF => ?_) 20000 (0 : Int32) qsquare _ _ hP hD hS _ (lv_sub hl [0, 1, 2, 3] rfl) hF
    refine lv_aload_n hx hb dX1_doWalk_77 rfl (lv_at hl 1 rfl) ?_
    refine lv_dup hx hb dX1_doWalk_78 rfl ?_
    refine va_get (D := D) (ci := 1) (v := .int qstill) (C := RX1) (T := TX1) (N := 9) hx hb hts iX1 hown hK hP 0 rfl rfl 3 (by decide) k_f35 (fun _ h9 => h9) rfl dX1_doWalk_79 ?_
    refine lv_iload hx hb dX1_doWalk_82 (lv_at hl 0 rfl) ?_
    refine lv_iconst (v := (-1 : Int32)) hx hb dX1_doWalk_84 (by decide) ?_
    refine lv_ixor hx hb dX1_doWalk_85 ?_
    refine lv_iand hx hb dX1_doWalk_86 ?_
    refine va_put (D := D) (ci := 1) (v := .int (qstill &&& ((((1 : Int32) <<< (i &&& 31)) ||| r16) ^^^ (-1 : Int32)))) (ty := .int) (C := RX1) (T := TX1) (N := 9) hx hb hts iX1 tyX1 tyX1_ok nmX1 hown hK hP hD hS 0 rfl rfl 3 (by decide) k_f35 (fun _ h9 => h9) rfl (by decide +kernel) rfl rfl (Nat.le_of_ble_eq_true rfl) dX1_doWalk_87 (fun H locs hP hD hS => ?_)
    have hP : va_P D vwCl [(aq, .inr (1, [.ref ap, .int qgone, .int qmet, .int (qstill &&& ((((1 : Int32) <<< (i &&& 31)) ||| r16) ^^^ (-1 : Int32))), .int qdone, .ref aqh, .ref aqw, .ref aqs, .ref aqu])), (aqh, .inl (cI, 6, .inl qhour)), (aqw, .inl (cI, 6, .inl qworn)), (aqs, .inl (cI, 5, .inl qsquare_19)), (aqu, .inl (cI, 5, .inl qunder)), (ap, .inr (2, [.int psq, .int ppa, .int ppe, .int pwo, .ref apk, .ref apq, .ref apr])), (apk, .inl (cI, 6, .inl pkind)), (apq, .inl (cI, 6, .inl pwsq)), (apr, .inl (cI, 6, .inl pwhr))] H := hP
    have hD : va_D A [(aq, .inr (1, [.ref ap, .int qgone, .int qmet, .int (qstill &&& ((((1 : Int32) <<< (i &&& 31)) ||| r16) ^^^ (-1 : Int32))), .int qdone, .ref aqh, .ref aqw, .ref aqs, .ref aqu])), (aqh, .inl (cI, 6, .inl qhour)), (aqw, .inl (cI, 6, .inl qworn)), (aqs, .inl (cI, 5, .inl qsquare_19)), (aqu, .inl (cI, 5, .inl qunder)), (ap, .inr (2, [.int psq, .int ppa, .int ppe, .int pwo, .ref apk, .ref apq, .ref apr])), (apk, .inl (cI, 6, .inl pkind)), (apq, .inl (cI, 6, .inl pwsq)), (apr, .inl (cI, 6, .inl pwhr))] := hD
    cases hF
    rw [hQ]
    exact xrv hC hP hS dX1_doWalk_90

def f_X1_doMend (qworn : (Nat → Int32)) (u : Int32) : Option (Nat → Int32) := (Option.bind (f_X7_put 6 qworn u (0 : Int32)) fun f_1 => (some f_1))

def rm_X1_doMend : Room := { frames := 1, cells := 0, slots := 0, locals := 22 }

theorem pd_X1_doMend : yX1_doMend.cls ≠ "java/lang/invoke/MethodHandle" ∧ yX1_doMend.cls ≠ "java/lang/invoke/VarHandle" ∧ (parseMethodDescriptor yX1_doMend.desc).map (fun d => d.parameters.length) = some 1 := by decide +kernel

set_option maxHeartbeats 4000000 in
set_option maxRecDepth 100000 in
theorem c_X1_doMend (l : Launch) (D : va_G) (cI cC cM : ClassId) (aq aqh aqw aqs aqu ap apk apq apr : Nat) (qgone : Int32) (qmet : Int32) (qstill : Int32) (qdone : Int32) (qhour : (Nat → Int32)) (qworn : (Nat → Int32)) (qsquare : (Nat → Int32)) (qunder : (Nat → Int32)) (psq : Int32) (ppa : Int32) (ppe : Int32) (pwo : Int32) (pkind : (Nat → Int32)) (pwsq : (Nat → Int32)) (pwhr : (Nat → Int32)) (u : Int32) (qworn' : (Nat → Int32)) (hF : f_X1_doMend qworn u = some qworn') : CV l D cI cC cM yX1_doMend wsX1_doMend rm_X1_doMend [.ref aq, .int u] [(aq, .inr (1, [.ref ap, .int qgone, .int qmet, .int qstill, .int qdone, .ref aqh, .ref aqw, .ref aqs, .ref aqu])), (aqh, .inl (cI, 6, .inl qhour)), (aqw, .inl (cI, 6, .inl qworn)), (aqs, .inl (cI, 5, .inl qsquare)), (aqu, .inl (cI, 5, .inl qunder)), (ap, .inr (2, [.int psq, .int ppa, .int ppe, .int pwo, .ref apk, .ref apq, .ref apr])), (apk, .inl (cI, 6, .inl pkind)), (apq, .inl (cI, 6, .inl pwsq)), (apr, .inl (cI, 6, .inl pwhr))] [(aq, .inr (1, [.ref ap, .int qgone, .int qmet, .int qstill, .int qdone, .ref aqh, .ref aqw, .ref aqs, .ref aqu])), (aqh, .inl (cI, 6, .inl qhour)), (aqw, .inl (cI, 6, .inl qworn')), (aqs, .inl (cI, 5, .inl qsquare)), (aqu, .inl (cI, 5, .inl qunder)), (ap, .inr (2, [.int psq, .int ppa, .int ppe, .int pwo, .ref apk, .ref apq, .ref apr])), (apk, .inl (cI, 6, .inl pkind)), (apq, .inl (cI, 6, .inl pwsq)), (apr, .inl (cI, 6, .inl pwhr))] := by
  refine CV.of (cc := cX1_doMend) (nL := 2) (ret := none) (by decide) rfl (Nat.le_of_ble_eq_true rfl) ?_
  intro p e s m args below meth c A hC hP hD hS ls hl
  obtain ⟨hx, hb, hml, hown, hts, hr, hlk, hG, hA⟩ := id hC
  have hown : s.vm.findClass RX1 = some m.cls := hown
  have hK := hG.1
  have hl : lv_has ls 2 [(0, .ref aq), (1, .int u)] := hl
  have k_f15 := hts (.fieldLink RX1 15 "ParasolHours$Moment" "worn" "[I") (List.mem_of_getElem? (i := 1) rfl)
  have k_st_put := hts (.static yX7_put) (List.mem_of_getElem? (i := 2) rfl)
  have k_in_X7 := hts (.initialized RX7) (List.mem_of_getElem? (i := 3) rfl)
  have iX1 : ∀ w ∈ wsX10, w ∈ wsX1_doMend := by decide +kernel
  obtain ⟨Q, hQ⟩ : ∃ Q, Q = MQ below (QV D [(aq, .inr (1, [.ref ap, .int qgone, .int qmet, .int qstill, .int qdone, .ref aqh, .ref aqw, .ref aqs, .ref aqu])), (aqh, .inl (cI, 6, .inl qhour)), (aqw, .inl (cI, 6, .inl qworn')), (aqs, .inl (cI, 5, .inl qsquare)), (aqu, .inl (cI, 5, .inl qunder)), (ap, .inr (2, [.int psq, .int ppa, .int ppe, .int pwo, .ref apk, .ref apq, .ref apr])), (apk, .inl (cI, 6, .inl pkind)), (apq, .inl (cI, 6, .inl pwsq)), (apr, .inl (cI, 6, .inl pwhr))] A) args s 0 0 A := ⟨_, rfl⟩
  rw [← hQ]
  unfold f_X1_doMend at hF
  refine lv_aload_n hx hb dX1_doMend_0 rfl (lv_at hl 0 rfl) ?_
  refine va_get (D := D) (ci := 1) (v := .ref aqw) (C := RX1) (T := TX1) (N := 9) hx hb hts iX1 hown hK hP 0 rfl rfl 6 (by decide) k_f15 (fun _ h9 => h9) rfl dX1_doMend_1 ?_
  refine lv_iload_n hx hb dX1_doMend_4 rfl (lv_at hl 1 rfl) ?_
  refine lv_iconst (v := (0 : Int32)) hx hb dX1_doMend_5 (by decide) ?_
  obtain ⟨f_1, hb2, hF⟩ := op_bind hF
  refine xNv (As := [.ref aqw, .int u, .int (0 : Int32)]) (rest := []) hC hP hD hS [2] (c_X7_put l D cI cC cM aqw 6 qworn u (0 : Int32) f_1 hb2) ⟨va_cnB 3 hts gX1_doMend_X7_put_n100 rfl rfl rfl (hG.nw 14 rfl) k_in_X7 pd_X7_put ⟨Nat.le_of_ble_eq_true rfl, Nat.le_of_ble_eq_true rfl⟩, k_st_put, trivial⟩ rfl rfl rfl rfl hl.1 rfl (Nat.le_of_ble_eq_true rfl) dX1_doMend_6 ⟨Nat.zero_le _, Nat.zero_le _⟩ (fun H locs hP hD hS => ?_)
  have hP : va_P D vwCl [(aq, .inr (1, [.ref ap, .int qgone, .int qmet, .int qstill, .int qdone, .ref aqh, .ref aqw, .ref aqs, .ref aqu])), (aqh, .inl (cI, 6, .inl qhour)), (aqw, .inl (cI, 6, .inl f_1)), (aqs, .inl (cI, 5, .inl qsquare)), (aqu, .inl (cI, 5, .inl qunder)), (ap, .inr (2, [.int psq, .int ppa, .int ppe, .int pwo, .ref apk, .ref apq, .ref apr])), (apk, .inl (cI, 6, .inl pkind)), (apq, .inl (cI, 6, .inl pwsq)), (apr, .inl (cI, 6, .inl pwhr))] H := hP
  have hD : va_D A [(aq, .inr (1, [.ref ap, .int qgone, .int qmet, .int qstill, .int qdone, .ref aqh, .ref aqw, .ref aqs, .ref aqu])), (aqh, .inl (cI, 6, .inl qhour)), (aqw, .inl (cI, 6, .inl f_1)), (aqs, .inl (cI, 5, .inl qsquare)), (aqu, .inl (cI, 5, .inl qunder)), (ap, .inr (2, [.int psq, .int ppa, .int ppe, .int pwo, .ref apk, .ref apq, .ref apr])), (apk, .inl (cI, 6, .inl pkind)), (apq, .inl (cI, 6, .inl pwsq)), (apr, .inl (cI, 6, .inl pwhr))] := hD
  cases hF
  rw [hQ]
  exact xrv hC hP hS dX1_doMend_9
