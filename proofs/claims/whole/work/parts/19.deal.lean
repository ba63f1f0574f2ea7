def f_X0_bestOf (dbest : (Nat → Int32)) (i : Int32) : Option Int32 := (Option.bind (f_X7_at 5 dbest i) fun r1 => (some r1))

def rm_X0_bestOf : Room := { frames := 1, cells := 0, slots := 0, locals := 21 }

theorem pd_X0_bestOf : yX0_bestOf.cls ≠ "java/lang/invoke/MethodHandle" ∧ yX0_bestOf.cls ≠ "java/lang/invoke/VarHandle" ∧ (parseMethodDescriptor yX0_bestOf.desc).map (fun d => d.parameters.length) = some 1 := by decide +kernel

set_option maxHeartbeats 4000000 in
set_option maxRecDepth 100000 in
theorem c_X0_bestOf (l : Launch) (D : va_G) (cI cC cM : ClassId) (ad adc adb adr : Nat) (dmost : Int32) (dcho : (Nat → Int32)) (dbest : (Nat → Int32)) (dreach : (Nat → Int32)) (i : Int32) (rr : Int32) (hF : f_X0_bestOf dbest i = some rr) : CI l D cI cC cM yX0_bestOf wsX0_bestOf rm_X0_bestOf [.ref ad, .int i] [(ad, .inr (0, [.ref adc, .ref adb, .ref adr, .int dmost])), (adc, .inl (cI, 5, .inl dcho)), (adb, .inl (cI, 5, .inl dbest)), (adr, .inl (cI, 6, .inl dreach))] [(ad, .inr (0, [.ref adc, .ref adb, .ref adr, .int dmost])), (adc, .inl (cI, 5, .inl dcho)), (adb, .inl (cI, 5, .inl dbest)), (adr, .inl (cI, 6, .inl dreach))] rr := by
  refine CI.of (cc := cX0_bestOf) (nL := 2) (ret := (some .int)) (by decide) rfl (Nat.le_of_ble_eq_true rfl) ?_
  intro p e s m args below meth c A hC hP hD hS ls hl
  obtain ⟨hx, hb, hml, hown, hts, hr, hlk, hG, hA⟩ := id hC
  have hown : s.vm.findClass RX0 = some m.cls := hown
  have hK := hG.1
  have hl : lv_has ls 2 [(0, .ref ad), (1, .int i)] := hl
  have k_f15 := hts (.fieldLink RX0 15 "ParasolHours$Deal" "best" "[I") (List.mem_of_getElem? (i := 1) rfl)
  have k_st_at := hts (.static yX7_at) (List.mem_of_getElem? (i := 2) rfl)
  have k_in_X7 := hts (.initialized RX7) (List.mem_of_getElem? (i := 3) rfl)
  have iX0 : ∀ w ∈ wsX00, w ∈ wsX0_bestOf := by decide +kernel
  obtain ⟨Q, hQ⟩ : ∃ Q, Q = MQ below (QI D [(ad, .inr (0, [.ref adc, .ref adb, .ref adr, .int dmost])), (adc, .inl (cI, 5, .inl dcho)), (adb, .inl (cI, 5, .inl dbest)), (adr, .inl (cI, 6, .inl dreach))] rr A) args s 0 0 A := ⟨_, rfl⟩
  rw [← hQ]
  unfold f_X0_bestOf at hF
  refine lv_aload_n hx hb dX0_bestOf_0 rfl (lv_at hl 0 rfl) ?_
  refine va_get (D := D) (ci := 0) (v := .ref adb) (C := RX0) (T := TX0) (N := 4) hx hb hts iX0 hown hK hP 0 rfl rfl 1 (by decide) k_f15 (fun _ h9 => h9) rfl dX0_bestOf_1 ?_
  refine lv_iload_n hx hb dX0_bestOf_4 rfl (lv_at hl 1 rfl) ?_
  obtain ⟨r1, hb2, hF⟩ := op_bind hF
  refine xNr (As := [.ref adb, .int i]) (rest := []) hC hP hD hS [2] (c_X7_at l D cI cC cM adb 5 dbest i r1 hb2) ⟨va_cnB 2 hts gX0_bestOf_X7_at_n40 rfl rfl rfl (hG.nw 19 rfl) k_in_X7 pd_X7_at ⟨Nat.le_of_ble_eq_true rfl, Nat.le_of_ble_eq_true rfl⟩, k_st_at, trivial⟩ rfl rfl rfl hl.1 rfl (Nat.le_of_ble_eq_true rfl) dX0_bestOf_5 ⟨Nat.zero_le _, Nat.zero_le _⟩ (fun H locs hP hS => ?_)
  cases hF
  rw [hQ]
  exact xri hC hP hS dX0_bestOf_8

def f_X0_reachOf_L20 (ppa : Int32) (qdone : Int32) (qhour : (Nat → Int32)) (qworn : (Nat → Int32)) (qsquare : (Nat → Int32)) (pwo : Int32) (pwsq : (Nat → Int32)) (pwhr : (Nat → Int32)) (i : Int32) (k20 : Int32 → Int32 → Option Int32) : Nat → Int32 → Int32 → Option Int32
  | 0, _, _ => none
  | nf20 + 1, v6, v7 => (if ppa ≤ v7 then (k20 v6 v7) else (Option.bind (f_X1_worksOf qdone qhour qworn qsquare pwo pwsq pwhr i v7) fun r9 => (f_X0_reachOf_L20 ppa qdone qhour qworn qsquare pwo pwsq pwhr i k20 nf20 (v6 ||| r9) (v7 + (1 : Int32)))))
theorem f_X0_reachOf_L20_0 (ppa : Int32) (qdone : Int32) (qhour : (Nat → Int32)) (qworn : (Nat → Int32)) (qsquare : (Nat → Int32)) (pwo : Int32) (pwsq : (Nat → Int32)) (pwhr : (Nat → Int32)) (i : Int32) (k20 : Int32 → Int32 → Option Int32) (v6 : Int32) (v7 : Int32) : f_X0_reachOf_L20 ppa qdone qhour qworn qsquare pwo pwsq pwhr i k20 0 v6 v7 = none := rfl
theorem f_X0_reachOf_L20_s (ppa : Int32) (qdone : Int32) (qhour : (Nat → Int32)) (qworn : (Nat → Int32)) (qsquare : (Nat → Int32)) (pwo : Int32) (pwsq : (Nat → Int32)) (pwhr : (Nat → Int32)) (i : Int32) (k20 : Int32 → Int32 → Option Int32) (nf20 : Nat) (v6 : Int32) (v7 : Int32) : f_X0_reachOf_L20 ppa qdone qhour qworn qsquare pwo pwsq pwhr i k20 (nf20 + 1) v6 v7 = (if ppa ≤ v7 then (k20 v6 v7) else (Option.bind (f_X1_worksOf qdone qhour qworn qsquare pwo pwsq pwhr i v7) fun r9 => (f_X0_reachOf_L20 ppa qdone qhour qworn qsquare pwo pwsq pwhr i k20 nf20 (v6 ||| r9) (v7 + (1 : Int32))))) := rfl

def f_X0_reachOf (qstill : Int32) (qdone : Int32) (qhour : (Nat → Int32)) (qworn : (Nat → Int32)) (qsquare : (Nat → Int32)) (ppa : Int32) (pwo : Int32) (pwsq : (Nat → Int32)) (pwhr : (Nat → Int32)) (i : Int32) : Option Int32 := (Option.bind (f_X1_isStill qstill i) fun r1 => (if r1 = 0 then (Option.bind (f_X1_worksOf qdone qhour qworn qsquare pwo pwsq pwhr i (-4 : Int32)) fun r4 => (f_X0_reachOf_L20 ppa qdone qhour qworn qsquare pwo pwsq pwhr i (fun (v6 : Int32) (v7 : Int32) => (some v6)) 20000 r4 (0 : Int32))) else (some (0 : Int32))))

def rm_X0_reachOf : Room := { frames := 4, cells := 0, slots := 0, locals := 90 }

theorem pd_X0_reachOf : yX0_reachOf.cls ≠ "java/lang/invoke/MethodHandle" ∧ yX0_reachOf.cls ≠ "java/lang/invoke/VarHandle" ∧ (parseMethodDescriptor yX0_reachOf.desc).map (fun d => d.parameters.length) = some 2 := by decide +kernel

set_option maxHeartbeats 4000000 in
set_option maxRecDepth 100000 in
theorem c_X0_reachOf (l : Launch) (D : va_G) (cI cC cM : ClassId) (aq aqh aqw aqs aqu ap apk apq apr : Nat) (qgone : Int32) (qmet : Int32) (qstill : Int32) (qdone : Int32) (qhour : (Nat → Int32)) (qworn : (Nat → Int32)) (qsquare : (Nat → Int32)) (qunder : (Nat → Int32)) (psq : Int32) (ppa : Int32) (ppe : Int32) (pwo : Int32) (pkind : (Nat → Int32)) (pwsq : (Nat → Int32)) (pwhr : (Nat → Int32)) (i : Int32) (rr : Int32) (hF : f_X0_reachOf qstill qdone qhour qworn qsquare ppa pwo pwsq pwhr i = some rr) : CI l D cI cC cM yX0_reachOf wsX0_reachOf rm_X0_reachOf [.ref aq, .int i] [(aq, .inr (1, [.ref ap, .int qgone, .int qmet, .int qstill, .int qdone, .ref aqh, .ref aqw, .ref aqs, .ref aqu])), (aqh, .inl (cI, 6, .inl qhour)), (aqw, .inl (cI, 6, .inl qworn)), (aqs, .inl (cI, 5, .inl qsquare)), (aqu, .inl (cI, 5, .inl qunder)), (ap, .inr (2, [.int psq, .int ppa, .int ppe, .int pwo, .ref apk, .ref apq, .ref apr])), (apk, .inl (cI, 6, .inl pkind)), (apq, .inl (cI, 6, .inl pwsq)), (apr, .inl (cI, 6, .inl pwhr))] [(aq, .inr (1, [.ref ap, .int qgone, .int qmet, .int qstill, .int qdone, .ref aqh, .ref aqw, .ref aqs, .ref aqu])), (aqh, .inl (cI, 6, .inl qhour)), (aqw, .inl (cI, 6, .inl qworn)), (aqs, .inl (cI, 5, .inl qsquare)), (aqu, .inl (cI, 5, .inl qunder)), (ap, .inr (2, [.int psq, .int ppa, .int ppe, .int pwo, .ref apk, .ref apq, .ref apr])), (apk, .inl (cI, 6, .inl pkind)), (apq, .inl (cI, 6, .inl pwsq)), (apr, .inl (cI, 6, .inl pwhr))] rr := by
  refine CI.of (cc := cX0_reachOf) (nL := 4) (ret := (some .int)) (by decide) rfl (Nat.le_of_ble_eq_true rfl) ?_
  intro p e s m args below meth c A hC hP hD hS ls hl
  obtain ⟨hx, hb, hml, hown, hts, hr, hlk, hG, hA⟩ := id hC
  have hown : s.vm.findClass RX0 = some m.cls := hown
  have hK := hG.1
  have hl : lv_has ls 4 [(0, .ref aq), (1, .int i)] := hl
  have k_f25 := hts (.fieldLink RX0 25 "ParasolHours$Moment" "plan" "LParasolHours$Plan;") (List.mem_of_getElem? (i := 1) rfl)
  have k_f60 := hts (.fieldLink RX0 60 "ParasolHours$Plan" "parasols" "I") (List.mem_of_getElem? (i := 2) rfl)
  have iX1 : ∀ w ∈ wsX10, w ∈ wsX0_reachOf := by decide +kernel
  have iX2 : ∀ w ∈ wsX20, w ∈ wsX0_reachOf := by decide +kernel
  obtain ⟨Q, hQ⟩ : ∃ Q, Q = MQ below (QI D [(aq, .inr (1, [.ref ap, .int qgone, .int qmet, .int qstill, .int qdone, .ref aqh, .ref aqw, .ref aqs, .ref aqu])), (aqh, .inl (cI, 6, .inl qhour)), (aqw, .inl (cI, 6, .inl qworn)), (aqs, .inl (cI, 5, .inl qsquare)), (aqu, .inl (cI, 5, .inl qunder)), (ap, .inr (2, [.int psq, .int ppa, .int ppe, .int pwo, .ref apk, .ref apq, .ref apr])), (apk, .inl (cI, 6, .inl pkind)), (apq, .inl (cI, 6, .inl pwsq)), (apr, .inl (cI, 6, .inl pwhr))] rr A) args s 0 0 A := ⟨_, rfl⟩
  rw [← hQ]
  unfold f_X0_reachOf at hF
  refine lv_aload_n hx hb dX0_reachOf_0 rfl (lv_at hl 0 rfl) ?_
  refine lv_iload_n hx hb dX0_reachOf_1 rfl (lv_at hl 1 rfl) ?_
  obtain ⟨r1, hb2, hF⟩ := op_bind hF
  refine xVr (As := [.int i]) (rest := []) hC hP hD hS [0, 1, 2, 3, 4, 5, 6, 7, 8] (c_X1_isStill l D cI cC cM aq aqh aqw aqs aqu ap apk apq apr qgone qmet qstill qdone qhour qworn qsquare qunder psq ppa ppe pwo pkind pwsq pwhr i r1 hb2) (cwV 1 hts gX0_reachOf_X1_isStill rfl rfl rfl ⟨rfl, pd_X1_isStill⟩ ⟨Nat.le_of_ble_eq_true rfl, Nat.le_of_ble_eq_true rfl⟩) rfl rfl 0 1 rfl rfl rfl rfl hl.1 rfl (Nat.le_of_ble_eq_true rfl) dX0_reachOf_2 ⟨Nat.zero_le _, Nat.zero_le _⟩ (fun H locs hP hS => ?_)
  refine lv_if_eq (tgt := 10) hx hb dX0_reachOf_5 (by decide) (fun c3 => ?_) (fun c3 => ?_)
  · have hF := op_pos c3 hF
    refine lv_aload_n hx hb dX0_reachOf_10 rfl (lv_at hl 0 rfl) ?_
    refine lv_iload_n hx hb dX0_reachOf_11 rfl (lv_at hl 1 rfl) ?_
    refine lv_bipush (v := (-4 : Int32)) hx hb dX0_reachOf_12 (by decide) ?_
    obtain ⟨r4, hb5, hF⟩ := op_bind hF
    refine xVr (As := [.int i, .int (-4 : Int32)]) (rest := []) hC hP hD hS [0, 1, 2, 3, 4, 5, 6, 7, 8] (c_X1_worksOf l D cI cC cM aq aqh aqw aqs aqu ap apk apq apr qgone qmet qstill qdone qhour qworn qsquare qunder psq ppa ppe pwo pkind pwsq pwhr i (-4 : Int32) r4 hb5) (cwV 2 hts gX0_reachOf_X1_worksOf rfl rfl rfl ⟨rfl, pd_X1_worksOf⟩ ⟨Nat.le_of_ble_eq_true rfl, Nat.le_of_ble_eq_true rfl⟩) rfl rfl 0 1 rfl rfl rfl rfl hl.1 rfl (Nat.le_of_ble_eq_true rfl) dX0_reachOf_14 ⟨Nat.zero_le _, Nat.zero_le _⟩ (fun H locs hP hS => ?_)
    refine lv_istore_n (lv' := [(2, .int r4), (0, .ref aq), (1, .int i)]) hx hb dX0_reachOf_17 rfl hl (by decide) rfl (fun ls hl => ?_)
    refine lv_iconst (v := (0 : Int32)) hx hb dX0_reachOf_18 (by decide) ?_
    refine lv_istore_n (lv' := [(3, .int (0 : Int32)), (2, .int r4), (0, .ref aq), (1, .int i)]) hx hb dX0_reachOf_19 rfl hl (by decide) rfl (fun ls hl => ?_)
    have hL20 : ∀ (k20 : Int32 → Int32 → Option Int32), (∀ (v6 : Int32) (v7 : Int32) (H : Heap) (locs : List Loc), va_P D vwCl [(aq, .inr (1, [.ref ap, .int qgone, .int qmet, .int qstill, .int qdone, .ref aqh, .ref aqw, .ref aqs, .ref aqu])), (aqh, .inl (cI, 6, .inl qhour)), (aqw, .inl (cI, 6, .inl qworn)), (aqs, .inl (cI, 5, .inl qsquare)), (aqu, .inl (cI, 5, .inl qunder)), (ap, .inr (2, [.int psq, .int ppa, .int ppe, .int pwo, .ref apk, .ref apq, .ref apr])), (apk, .inl (cI, 6, .inl pkind)), (apq, .inl (cI, 6, .inl pwsq)), (apr, .inl (cI, 6, .inl pwhr))] H → va_D A [(aq, .inr (1, [.ref ap, .int qgone, .int qmet, .int qstill, .int qdone, .ref aqh, .ref aqw, .ref aqs, .ref aqu])), (aqh, .inl (cI, 6, .inl qhour)), (aqw, .inl (cI, 6, .inl qworn)), (aqs, .inl (cI, 5, .inl qsquare)), (aqu, .inl (cI, 5, .inl qunder)), (ap, .inr (2, [.int psq, .int ppa, .int ppe, .int pwo, .ref apk, .ref apq, .ref apr])), (apk, .inl (cI, 6, .inl pkind)), (apq, .inl (cI, 6, .inl pwsq)), (apr, .inl (cI, 6, .inl pwhr))] → va_S A s.heap H locs → ∀ ls : Array Slot, lv_has ls 4 [(2, .int v6)] → k20 v6 v7 = some rr → W p l e rm_X0_reachOf s m args below meth c H locs 0 0 Q (F0 m 46 ls [])) → ∀ (nf20 : Nat) (v6 : Int32) (v7 : Int32) (H : Heap) (locs : List Loc), va_P D vwCl [(aq, .inr (1, [.ref ap, .int qgone, .int qmet, .int qstill, .int qdone, .ref aqh, .ref aqw, .ref aqs, .ref aqu])), (aqh, .inl (cI, 6, .inl qhour)), (aqw, .inl (cI, 6, .inl qworn)), (aqs, .inl (cI, 5, .inl qsquare)), (aqu, .inl (cI, 5, .inl qunder)), (ap, .inr (2, [.int psq, .int ppa, .int ppe, .int pwo, .ref apk, .ref apq, .ref apr])), (apk, .inl (cI, 6, .inl pkind)), (apq, .inl (cI, 6, .inl pwsq)), (apr, .inl (cI, 6, .inl pwhr))] H → va_D A [(aq, .inr (1, [.ref ap, .int qgone, .int qmet, .int qstill, .int qdone, .ref aqh, .ref aqw, .ref aqs, .ref aqu])), (aqh, .inl (cI, 6, .inl qhour)), (aqw, .inl (cI, 6, .inl qworn)), (aqs, .inl (cI, 5, .inl qsquare)), (aqu, .inl (cI, 5, .inl qunder)), (ap, .inr (2, [.int psq, .int ppa, .int ppe, .int pwo, .ref apk, .ref apq, .ref apr])), (apk, .inl (cI, 6, .inl pkind)), (apq, .inl (cI, 6, .inl pwsq)), (apr, .inl (cI, 6, .inl pwhr))] → va_S A s.heap H locs → ∀ ls : Array Slot, lv_has ls 4 [(3, .int v7), (2, .int v6), (0, .ref aq), (1, .int i)] → f_X0_reachOf_L20 ppa qdone qhour qworn qsquare pwo pwsq pwhr i k20 nf20 v6 v7 = some rr → W p l e rm_X0_reachOf s m args below meth c H locs 0 0 Q (F0 m 20 ls []) := by
      intro k20 hk20 nf20
      induction nf20 with
      | zero =>
        intro v6 v7 H locs hP hD hS ls hl hF
        rw [f_X0_reachOf_L20_0] at hF
        cases hF
      | succ nf20 ih20 =>
        intro v6 v7 H locs hP hD hS ls hl hF
        rw [f_X0_reachOf_L20_s] at hF
        refine lv_iload_n hx hb dX0_reachOf_20 rfl (lv_at hl 0 rfl) ?_
        refine lv_aload_n hx hb dX0_reachOf_21 rfl (lv_at hl 2 rfl) ?_
        refine va_get (D := D) (ci := 1) (v := .ref ap) (C := RX1) (T := TX1) (N := 9) hx hb hts iX1 hown hK hP 0 rfl rfl 0 (by decide) k_f25 (fun _ h9 => h9) rfl dX0_reachOf_22 ?_
        refine va_get (D := D) (ci := 2) (v := .int ppa) (C := RX2) (T := TX2) (N := 7) hx hb hts iX2 hown hK hP 5 rfl rfl 1 (by decide) k_f60 (fun _ h9 => h9) rfl dX0_reachOf_25 ?_
        refine lv_icmp_ge (tgt := 46) hx hb dX0_reachOf_28 (by decide) (fun c8 => ?_) (fun c8 => ?_)
        · have hF := op_pos c8 hF
          exact hk20 v6 v7 _ _ hP hD hS _ (lv_sub hl [1] rfl) hF
        · have hF := op_neg c8 hF
          refine lv_iload_n hx hb dX0_reachOf_31 rfl (lv_at hl 1 rfl) ?_
          refine lv_aload_n hx hb dX0_reachOf_32 rfl (lv_at hl 2 rfl) ?_
          refine lv_iload_n hx hb dX0_reachOf_33 rfl (lv_at hl 3 rfl) ?_
          refine lv_iload_n hx hb dX0_reachOf_34 rfl (lv_at hl 0 rfl) ?_
          obtain ⟨r9, hb10, hF⟩ := op_bind hF
          refine xVr (As := [.int i, .int v7]) (rest := [.int v6]) hC hP hD hS [0, 1, 2, 3, 4, 5, 6, 7, 8] (c_X1_worksOf l D cI cC cM aq aqh aqw aqs aqu ap apk apq apr qgone qmet qstill qdone qhour qworn qsquare qunder psq ppa ppe pwo pkind pwsq pwhr i v7 r9 hb10) (cwV 2 hts gX0_reachOf_X1_worksOf rfl rfl rfl ⟨rfl, pd_X1_worksOf⟩ ⟨Nat.le_of_ble_eq_true rfl, Nat.le_of_ble_eq_true rfl⟩) rfl rfl 0 1 rfl rfl rfl rfl hl.1 rfl (Nat.le_of_ble_eq_true rfl) dX0_reachOf_35 ⟨Nat.zero_le _, Nat.zero_le _⟩ (fun H locs hP hS => ?_)
          refine lv_ior hx hb dX0_reachOf_38 ?_
          refine lv_istore_n (lv' := [(2, .int (v6 ||| r9)), (3, .int v7), (0, .ref aq), (1, .int i)]) hx hb dX0_reachOf_39 rfl hl (by decide) rfl (fun ls hl => ?_)
          refine lv_iinc (v := (v7 + (1 : Int32))) (lv' := [(3, .int (v7 + (1 : Int32))), (2, .int (v6 ||| r9)), (0, .ref aq), (1, .int i)]) hx hb dX0_reachOf_40 hl (k := 1) rfl (by first | rfl | decide) (by decide) rfl (fun ls hl => ?_)
          refine lv_goto (tgt := 20) hx hb dX0_reachOf_43 (by decide) ?_
          exact ih20 (v6 ||| r9) (v7 + (1 : Int32)) _ _ hP hD hS _ (lv_sub hl [0, 1, 2, 3] rfl) hF
    refine hL20 _ (fun v6 v7 H locs hP hD hS ls hl hF => ?_) 20000 r4 (0 : Int32) _ _ hP hD hS _ (lv_sub hl [0, 1, 2, 3] rfl) hF
    refine lv_iload_n hx hb dX0_reachOf_46 rfl (lv_at hl 0 rfl) ?_
    cases hF
    rw [hQ]
    exact xri hC hP hS dX0_reachOf_47
  · have hF := op_neg c3 hF
    refine lv_iconst (v := (0 : Int32)) hx hb dX0_reachOf_8 (by decide) ?_
    cases hF
    rw [hQ]
    exact xri hC hP hS dX0_reachOf_9

def f_X0_choose_L62 (ppa : Int32) (qstill : Int32) (i : Int32) (u : Int32) (qdone : Int32) (qhour : (Nat → Int32)) (qworn : (Nat → Int32)) (qsquare : (Nat → Int32)) (pwo : Int32) (pwsq : (Nat → Int32)) (pwhr : (Nat → Int32)) (rec0 : (Int32 → (Nat → Int32) → (Nat → Int32) → (Nat → Int32) → Int32 → Int32 → Int32 → Int32 → (Nat → Int32) → (Nat → Int32) → (Nat → Int32) → (Nat → Int32) → Int32 → Int32 → Int32 → Int32 → (Nat → Int32) → (Nat → Int32) → (Nat → Int32) → Int32 → Int32 → Int32 → Option (Int32 × (Nat → Int32) × (Nat → Int32)))) (dreach : (Nat → Int32)) (qgone : Int32) (qmet : Int32) (qunder : (Nat → Int32)) (psq : Int32) (ppe : Int32) (pkind : (Nat → Int32)) (d0 : Int32) (k62 : Int32 → Int32 → (Nat → Int32) → (Nat → Int32) → Option (Int32 × (Nat → Int32) × (Nat → Int32))) : Nat → Int32 → Int32 → (Nat → Int32) → (Nat → Int32) → Option (Int32 × (Nat → Int32) × (Nat → Int32))
  | 0, _, _, _, _ => none
  | nf62 + 1, v12, dmost_13, dcho_14, dbest_15 => (if ppa ≤ v12 then (k62 v12 dmost_13 dcho_14 dbest_15) else (Option.bind (f_X1_isStill qstill i) fun r17 => (if r17 = 0 then (Option.bind (f_X7_hasBit u v12) fun r20 => (if r20 = 0 then (Option.bind (f_X7_put 5 dcho_14 i v12) fun f_23 => (Option.bind (f_X1_worksOf qdone qhour qworn qsquare pwo pwsq pwhr i v12) fun r25 => (Option.bind (rec0 dmost_13 f_23 dbest_15 dreach qgone qmet qstill qdone qhour qworn qsquare qunder psq ppa ppe pwo pkind pwsq pwhr (i + (1 : Int32)) (u ||| ((1 : Int32) <<< (v12 &&& 31))) (d0 ||| r25)) fun (dmost_27, dcho_28, dbest_29) => (f_X0_choose_L62 ppa qstill i u qdone qhour qworn qsquare pwo pwsq pwhr rec0 dreach qgone qmet qunder psq ppe pkind d0 k62 nf62 (v12 + (1 : Int32)) dmost_27 dcho_28 dbest_29)))) else (f_X0_choose_L62 ppa qstill i u qdone qhour qworn qsquare pwo pwsq pwhr rec0 dreach qgone qmet qunder psq ppe pkind d0 k62 nf62 (v12 + (1 : Int32)) dmost_13 dcho_14 dbest_15))) else (k62 v12 dmost_13 dcho_14 dbest_15))))
theorem f_X0_choose_L62_0 (ppa : Int32) (qstill : Int32) (i : Int32) (u : Int32) (qdone : Int32) (qhour : (Nat → Int32)) (qworn : (Nat → Int32)) (qsquare : (Nat → Int32)) (pwo : Int32) (pwsq : (Nat → Int32)) (pwhr : (Nat → Int32)) (rec0 : (Int32 → (Nat → Int32) → (Nat → Int32) → (Nat → Int32) → Int32 → Int32 → Int32 → Int32 → (Nat → Int32) → (Nat → Int32) → (Nat → Int32) → (Nat → Int32) → Int32 → Int32 → Int32 → Int32 → (Nat → Int32) → (Nat → Int32) → (Nat → Int32) → Int32 → Int32 → Int32 → Option (Int32 × (Nat → Int32) × (Nat → Int32)))) (dreach : (Nat → Int32)) (qgone : Int32) (qmet : Int32) (qunder : (Nat → Int32)) (psq : Int32) (ppe : Int32) (pkind : (Nat → Int32)) (d0 : Int32) (k62 : Int32 → Int32 → (Nat → Int32) → (Nat → Int32) → Option (Int32 × (Nat → Int32) × (Nat → Int32))) (v12 : Int32) (dmost_13 : Int32) (dcho_14 : (Nat → Int32)) (dbest_15 : (Nat → Int32)) : f_X0_choose_L62 ppa qstill i u qdone qhour qworn qsquare pwo pwsq pwhr rec0 dreach qgone qmet qunder psq ppe pkind d0 k62 0 v12 dmost_13 dcho_14 dbest_15 = none := rfl
theorem f_X0_choose_L62_s (ppa : Int32) (qstill : Int32) (i : Int32) (u : Int32) (qdone : Int32) (qhour : (Nat → Int32)) (qworn : (Nat → Int32)) (qsquare : (Nat → Int32)) (pwo : Int32) (pwsq : (Nat → Int32)) (pwhr : (Nat → Int32)) (rec0 : (Int32 → (Nat → Int32) → (Nat → Int32) → (Nat → Int32) → Int32 → Int32 → Int32 → Int32 → (Nat → Int32) → (Nat → Int32) → (Nat → Int32) → (Nat → Int32) → Int32 → Int32 → Int32 → Int32 → (Nat → Int32) → (Nat → Int32) → (Nat → Int32) → Int32 → Int32 → Int32 → Option (Int32 × (Nat → Int32) × (Nat → Int32)))) (dreach : (Nat → Int32)) (qgone : Int32) (qmet : Int32) (qunder : (Nat → Int32)) (psq : Int32) (ppe : Int32) (pkind : (Nat → Int32)) (d0 : Int32) (k62 : Int32 → Int32 → (Nat → Int32) → (Nat → Int32) → Option (Int32 × (Nat → Int32) × (Nat → Int32))) (nf62 : Nat) (v12 : Int32) (dmost_13 : Int32) (dcho_14 : (Nat → Int32)) (dbest_15 : (Nat → Int32)) : f_X0_choose_L62 ppa qstill i u qdone qhour qworn qsquare pwo pwsq pwhr rec0 dreach qgone qmet qunder psq ppe pkind d0 k62 (nf62 + 1) v12 dmost_13 dcho_14 dbest_15 = (if ppa ≤ v12 then (k62 v12 dmost_13 dcho_14 dbest_15) else (Option.bind (f_X1_isStill qstill i) fun r17 => (if r17 = 0 then (Option.bind (f_X7_hasBit u v12) fun r20 => (if r20 = 0 then (Option.bind (f_X7_put 5 dcho_14 i v12) fun f_23 => (Option.bind (f_X1_worksOf qdone qhour qworn qsquare pwo pwsq pwhr i v12) fun r25 => (Option.bind (rec0 dmost_13 f_23 dbest_15 dreach qgone qmet qstill qdone qhour qworn qsquare qunder psq ppa ppe pwo pkind pwsq pwhr (i + (1 : Int32)) (u ||| ((1 : Int32) <<< (v12 &&& 31))) (d0 ||| r25)) fun (dmost_27, dcho_28, dbest_29) => (f_X0_choose_L62 ppa qstill i u qdone qhour qworn qsquare pwo pwsq pwhr rec0 dreach qgone qmet qunder psq ppe pkind d0 k62 nf62 (v12 + (1 : Int32)) dmost_27 dcho_28 dbest_29)))) else (f_X0_choose_L62 ppa qstill i u qdone qhour qworn qsquare pwo pwsq pwhr rec0 dreach qgone qmet qunder psq ppe pkind d0 k62 nf62 (v12 + (1 : Int32)) dmost_13 dcho_14 dbest_15))) else (k62 v12 dmost_13 dcho_14 dbest_15)))) := rfl

def f_X0_choose : Nat → Int32 → (Nat → Int32) → (Nat → Int32) → (Nat → Int32) → Int32 → Int32 → Int32 → Int32 → (Nat → Int32) → (Nat → Int32) → (Nat → Int32) → (Nat → Int32) → Int32 → Int32 → Int32 → Int32 → (Nat → Int32) → (Nat → Int32) → (Nat → Int32) → Int32 → Int32 → Int32 → Option (Int32 × (Nat → Int32) × (Nat → Int32))
  | 0, _, _, _, _, _, _, _, _, _, _, _, _, _, _, _, _, _, _, _, _, _, _ => none
  | nr + 1, dmost, dcho, dbest, dreach, qgone, qmet, qstill, qdone, qhour, qworn, qsquare, qunder, psq, ppa, ppe, pwo, pkind, pwsq, pwhr, i, u, d0 => (fun (rec0 : Int32 → (Nat → Int32) → (Nat → Int32) → (Nat → Int32) → Int32 → Int32 → Int32 → Int32 → (Nat → Int32) → (Nat → Int32) → (Nat → Int32) → (Nat → Int32) → Int32 → Int32 → Int32 → Int32 → (Nat → Int32) → (Nat → Int32) → (Nat → Int32) → Int32 → Int32 → Int32 → Option (Int32 × (Nat → Int32) × (Nat → Int32))) => (Option.bind (f_X7_at 6 dreach i) fun r1 => (Option.bind (f_J6_bitCount_0f7a4 (d0 ||| r1)) fun r3 => (if dmost < r3 then (if ppe ≤ i then (Option.bind (f_J6_bitCount_0f7a4 d0) fun r7 => (Option.bind (f_X7_copyRow 5 5 dcho dbest) fun g_9 => (some (r7, dcho, g_9)))) else (if i < (5 : Int32) then (f_X0_choose_L62 ppa qstill i u qdone qhour qworn qsquare pwo pwsq pwhr rec0 dreach qgone qmet qunder psq ppe pkind d0 (fun (v12 : Int32) (dmost_13 : Int32) (dcho_14 : (Nat → Int32)) (dbest_15 : (Nat → Int32)) => (Option.bind (f_X7_put 5 dcho_14 i (-4 : Int32)) fun f_31 => (Option.bind (f_X1_isStill qstill i) fun r33 => (if r33 = 0 then (Option.bind (f_X1_worksOf qdone qhour qworn qsquare pwo pwsq pwhr i (-4 : Int32)) fun r36 => (Option.bind (rec0 dmost_13 f_31 dbest_15 dreach qgone qmet qstill qdone qhour qworn qsquare qunder psq ppa ppe pwo pkind pwsq pwhr (i + (1 : Int32)) u (d0 ||| r36)) fun (dmost_38, dcho_39, dbest_40) => (some (dmost_38, dcho_39, dbest_40)))) else (Option.bind (rec0 dmost_13 f_31 dbest_15 dreach qgone qmet qstill qdone qhour qworn qsquare qunder psq ppa ppe pwo pkind pwsq pwhr (i + (1 : Int32)) u d0) fun (dmost_42, dcho_43, dbest_44) => (some (dmost_42, dcho_43, dbest_44))))))) 20000 (0 : Int32) dmost dcho dbest) else (Option.bind (f_J6_bitCount_0f7a4 d0) fun r46 => (Option.bind (f_X7_copyRow 5 5 dcho dbest) fun g_48 => (some (r46, dcho, g_48)))))) else (some (dmost, dcho, dbest)))))) (f_X0_choose nr)

theorem f_X0_choose_0 (dmost : Int32) (dcho : (Nat → Int32)) (dbest : (Nat → Int32)) (dreach : (Nat → Int32)) (qgone : Int32) (qmet : Int32) (qstill : Int32) (qdone : Int32) (qhour : (Nat → Int32)) (qworn : (Nat → Int32)) (qsquare : (Nat → Int32)) (qunder : (Nat → Int32)) (psq : Int32) (ppa : Int32) (ppe : Int32) (pwo : Int32) (pkind : (Nat → Int32)) (pwsq : (Nat → Int32)) (pwhr : (Nat → Int32)) (i : Int32) (u : Int32) (d0 : Int32) : f_X0_choose 0 dmost dcho dbest dreach qgone qmet qstill qdone qhour qworn qsquare qunder psq ppa ppe pwo pkind pwsq pwhr i u d0 = none := rfl

theorem f_X0_choose_s (nr : Nat) (dmost : Int32) (dcho : (Nat → Int32)) (dbest : (Nat → Int32)) (dreach : (Nat → Int32)) (qgone : Int32) (qmet : Int32) (qstill : Int32) (qdone : Int32) (qhour : (Nat → Int32)) (qworn : (Nat → Int32)) (qsquare : (Nat → Int32)) (qunder : (Nat → Int32)) (psq : Int32) (ppa : Int32) (ppe : Int32) (pwo : Int32) (pkind : (Nat → Int32)) (pwsq : (Nat → Int32)) (pwhr : (Nat → Int32)) (i : Int32) (u : Int32) (d0 : Int32) : f_X0_choose (nr + 1) dmost dcho dbest dreach qgone qmet qstill qdone qhour qworn qsquare qunder psq ppa ppe pwo pkind pwsq pwhr i u d0 = (Option.bind (f_X7_at 6 dreach i) fun r1 => (Option.bind (f_J6_bitCount_0f7a4 (d0 ||| r1)) fun r3 => (if dmost < r3 then (if ppe ≤ i then (Option.bind (f_J6_bitCount_0f7a4 d0) fun r7 => (Option.bind (f_X7_copyRow 5 5 dcho dbest) fun g_9 => (some (r7, dcho, g_9)))) else (if i < (5 : Int32) then (f_X0_choose_L62 ppa qstill i u qdone qhour qworn qsquare pwo pwsq pwhr (f_X0_choose nr) dreach qgone qmet qunder psq ppe pkind d0 (fun (v12 : Int32) (dmost_13 : Int32) (dcho_14 : (Nat → Int32)) (dbest_15 : (Nat → Int32)) => (Option.bind (f_X7_put 5 dcho_14 i (-4 : Int32)) fun f_31 => (Option.bind (f_X1_isStill qstill i) fun r33 => (if r33 = 0 then (Option.bind (f_X1_worksOf qdone qhour qworn qsquare pwo pwsq pwhr i (-4 : Int32)) fun r36 => (Option.bind ((f_X0_choose nr) dmost_13 f_31 dbest_15 dreach qgone qmet qstill qdone qhour qworn qsquare qunder psq ppa ppe pwo pkind pwsq pwhr (i + (1 : Int32)) u (d0 ||| r36)) fun (dmost_38, dcho_39, dbest_40) => (some (dmost_38, dcho_39, dbest_40)))) else (Option.bind ((f_X0_choose nr) dmost_13 f_31 dbest_15 dreach qgone qmet qstill qdone qhour qworn qsquare qunder psq ppa ppe pwo pkind pwsq pwhr (i + (1 : Int32)) u d0) fun (dmost_42, dcho_43, dbest_44) => (some (dmost_42, dcho_43, dbest_44))))))) 20000 (0 : Int32) dmost dcho dbest) else (Option.bind (f_J6_bitCount_0f7a4 d0) fun r46 => (Option.bind (f_X7_copyRow 5 5 dcho dbest) fun g_48 => (some (r46, dcho, g_48)))))) else (some (dmost, dcho, dbest))))) := rfl

def rm_X0_choose (nr : Nat) : Room := { frames := 4 + nr, cells := 0, slots := 0, locals := 90 + nr * 25 }

theorem pd_X0_choose : yX0_choose.cls ≠ "java/lang/invoke/MethodHandle" ∧ yX0_choose.cls ≠ "java/lang/invoke/VarHandle" ∧ (parseMethodDescriptor yX0_choose.desc).map (fun d => d.parameters.length) = some 5 := by decide +kernel

def T_X0_choose (nr : Nat) : Prop := ∀ (l : Launch) (D : va_G) (cI cC cM : ClassId) (ad adc adb adr aq aqh aqw aqs aqu ap apk apq apr : Nat) (dmost : Int32) (dcho : (Nat → Int32)) (dbest : (Nat → Int32)) (dreach : (Nat → Int32)) (qgone : Int32) (qmet : Int32) (qstill : Int32) (qdone : Int32) (qhour : (Nat → Int32)) (qworn : (Nat → Int32)) (qsquare : (Nat → Int32)) (qunder : (Nat → Int32)) (psq : Int32) (ppa : Int32) (ppe : Int32) (pwo : Int32) (pkind : (Nat → Int32)) (pwsq : (Nat → Int32)) (pwhr : (Nat → Int32)) (i : Int32) (u : Int32) (d0 : Int32) (dmost' : Int32) (dcho' : (Nat → Int32)) (dbest' : (Nat → Int32)) (hF : f_X0_choose nr dmost dcho dbest dreach qgone qmet qstill qdone qhour qworn qsquare qunder psq ppa ppe pwo pkind pwsq pwhr i u d0 = some (dmost', dcho', dbest')), CV l D cI cC cM yX0_choose wsX0_choose (rm_X0_choose nr) [.ref ad, .ref aq, .int i, .int u, .int d0] [(ad, .inr (0, [.ref adc, .ref adb, .ref adr, .int dmost])), (adc, .inl (cI, 5, .inl dcho)), (adb, .inl (cI, 5, .inl dbest)), (adr, .inl (cI, 6, .inl dreach)), (aq, .inr (1, [.ref ap, .int qgone, .int qmet, .int qstill, .int qdone, .ref aqh, .ref aqw, .ref aqs, .ref aqu])), (aqh, .inl (cI, 6, .inl qhour)), (aqw, .inl (cI, 6, .inl qworn)), (aqs, .inl (cI, 5, .inl qsquare)), (aqu, .inl (cI, 5, .inl qunder)), (ap, .inr (2, [.int psq, .int ppa, .int ppe, .int pwo, .ref apk, .ref apq, .ref apr])), (apk, .inl (cI, 6, .inl pkind)), (apq, .inl (cI, 6, .inl pwsq)), (apr, .inl (cI, 6, .inl pwhr))] [(ad, .inr (0, [.ref adc, .ref adb, .ref adr, .int dmost'])), (adc, .inl (cI, 5, .inl dcho')), (adb, .inl (cI, 5, .inl dbest')), (adr, .inl (cI, 6, .inl dreach)), (aq, .inr (1, [.ref ap, .int qgone, .int qmet, .int qstill, .int qdone, .ref aqh, .ref aqw, .ref aqs, .ref aqu])), (aqh, .inl (cI, 6, .inl qhour)), (aqw, .inl (cI, 6, .inl qworn)), (aqs, .inl (cI, 5, .inl qsquare)), (aqu, .inl (cI, 5, .inl qunder)), (ap, .inr (2, [.int psq, .int ppa, .int ppe, .int pwo, .ref apk, .ref apq, .ref apr])), (apk, .inl (cI, 6, .inl pkind)), (apq, .inl (cI, 6, .inl pwsq)), (apr, .inl (cI, 6, .inl pwhr))]
set_option maxHeartbeats 4000000 in
set_option maxRecDepth 100000 in
theorem c_X0_choose_s (nr : Nat) (ihr : T_X0_choose nr) : T_X0_choose (nr + 1) := by
  intro l D cI cC cM ad adc adb adr aq aqh aqw aqs aqu ap apk apq apr dmost dcho dbest dreach qgone qmet qstill qdone qhour qworn qsquare qunder psq ppa ppe pwo pkind pwsq pwhr i u d0 dmost' dcho' dbest' hF
  refine CV.of (cc := cX0_choose) (nL := 6) (ret := none) (by decide) rfl (Nat.le_of_ble_eq_true rfl) ?_
  intro p e s m args below meth c A hC hP hD hS ls hl
  obtain ⟨hx, hb, hml, hown, hts, hr, hlk, hG, hA⟩ := id hC
  have hown : s.vm.findClass RX0 = some m.cls := hown
  have hK := hG.1
  have hl : lv_has ls 6 [(0, .ref ad), (1, .ref aq), (2, .int i), (3, .int u), (4, .int d0)] := hl
  have k_f18 := hts (.fieldLink RX0 18 "ParasolHours$Deal" "reach" "[I") (List.mem_of_getElem? (i := 1) rfl)
  have k_st_at := hts (.static yX7_at) (List.mem_of_getElem? (i := 8) rfl)
  have k_in_X7 := hts (.initialized RX7) (List.mem_of_getElem? (i := 9) rfl)
  have k_f21 := hts (.fieldLink RX0 21 "ParasolHours$Deal" "most" "I") (List.mem_of_getElem? (i := 2) rfl)
  have k_f25 := hts (.fieldLink RX0 25 "ParasolHours$Moment" "plan" "LParasolHours$Plan;") (List.mem_of_getElem? (i := 3) rfl)
  have k_f31 := hts (.fieldLink RX0 31 "ParasolHours$Plan" "persons" "I") (List.mem_of_getElem? (i := 4) rfl)
  have k_f9 := hts (.fieldLink RX0 9 "ParasolHours$Deal" "chosen" "[I") (List.mem_of_getElem? (i := 5) rfl)
  have k_f15 := hts (.fieldLink RX0 15 "ParasolHours$Deal" "best" "[I") (List.mem_of_getElem? (i := 6) rfl)
  have k_st_copyRow := hts (.static yX7_copyRow) (List.mem_of_getElem? (i := 18) rfl)
  have k_f60 := hts (.fieldLink RX0 60 "ParasolHours$Plan" "parasols" "I") (List.mem_of_getElem? (i := 7) rfl)
  have k_st_hasBit := hts (.static yX7_hasBit) (List.mem_of_getElem? (i := 26) rfl)
  have k_st_put := hts (.static yX7_put) (List.mem_of_getElem? (i := 28) rfl)
  have iX0 : ∀ w ∈ wsX00, w ∈ wsX0_choose := by decide +kernel
  have iX1 : ∀ w ∈ wsX10, w ∈ wsX0_choose := by decide +kernel
  have iX2 : ∀ w ∈ wsX20, w ∈ wsX0_choose := by decide +kernel
  obtain ⟨Q, hQ⟩ : ∃ Q, Q = MQ below (QV D [(ad, .inr (0, [.ref adc, .ref adb, .ref adr, .int dmost'])), (adc, .inl (cI, 5, .inl dcho')), (adb, .inl (cI, 5, .inl dbest')), (adr, .inl (cI, 6, .inl dreach)), (aq, .inr (1, [.ref ap, .int qgone, .int qmet, .int qstill, .int qdone, .ref aqh, .ref aqw, .ref aqs, .ref aqu])), (aqh, .inl (cI, 6, .inl qhour)), (aqw, .inl (cI, 6, .inl qworn)), (aqs, .inl (cI, 5, .inl qsquare)), (aqu, .inl (cI, 5, .inl qunder)), (ap, .inr (2, [.int psq, .int ppa, .int ppe, .int pwo, .ref apk, .ref apq, .ref apr])), (apk, .inl (cI, 6, .inl pkind)), (apq, .inl (cI, 6, .inl pwsq)), (apr, .inl (cI, 6, .inl pwhr))] A) args s 0 0 A := ⟨_, rfl⟩
  rw [← hQ]
  rw [f_X0_choose_s] at hF
  refine lv_iload hx hb dX0_choose_0 (lv_at hl 4 rfl) ?_
  refine lv_aload_n hx hb dX0_choose_2 rfl (lv_at hl 0 rfl) ?_
  refine va_get (D := D) (ci := 0) (v := .ref adr) (C := RX0) (T := TX0) (N := 4) hx hb hts iX0 hown hK hP 0 rfl rfl 2 (by decide) k_f18 (fun _ h9 => h9) rfl dX0_choose_3 ?_
  refine lv_iload_n hx hb dX0_choose_6 rfl (lv_at hl 2 rfl) ?_
  obtain ⟨r1, hb2, hF⟩ := op_bind hF
  refine xNr (As := [.ref adr, .int i]) (rest := [.int d0]) hC hP hD hS [3] (c_X7_at l D cI cC cM adr 6 dreach i r1 hb2) ⟨va_cnB 2 hts gX0_choose_X7_at_n40 rfl rfl rfl (hG.nw 19 rfl) k_in_X7 pd_X7_at ⟨by simp only [rm_X0_choose, rm_X7_at]; omega, by simp only [rm_X0_choose, rm_X7_at]; omega⟩, k_st_at, trivial⟩ rfl rfl rfl hl.1 rfl (Nat.le_of_ble_eq_true rfl) dX0_choose_7 ⟨Nat.zero_le _, Nat.zero_le _⟩ (fun H locs hP hS => ?_)
  refine lv_ior hx hb dX0_choose_10 ?_
  obtain ⟨r3, hb4, hF⟩ := op_bind hF
  refine xSr (As := [.int (d0 ||| r1)]) (rest := []) hC hP hD hS [] (c_J6_bitCount_0f7a4 l D cI cC cM (d0 ||| r1) r3 hb4) (va_cwS 1 hts gX0_choose_J6_bitCount_0f7a4 rfl rfl rfl pd_J6_bitCount_0f7a4 ⟨by simp only [rm_X0_choose, rm_J6_bitCount_0f7a4]; omega, by simp only [rm_X0_choose, rm_J6_bitCount_0f7a4]; omega⟩) rfl rfl rfl hl.1 rfl (Nat.le_of_ble_eq_true rfl) dX0_choose_11 ⟨Nat.zero_le _, Nat.zero_le _⟩ (fun H locs hP hS => ?_)
  refine lv_aload_n hx hb dX0_choose_14 rfl (lv_at hl 0 rfl) ?_
  refine va_get (D := D) (ci := 0) (v := .int dmost) (C := RX0) (T := TX0) (N := 4) hx hb hts iX0 hown hK hP 0 rfl rfl 3 (by decide) k_f21 (fun _ h9 => h9) rfl dX0_choose_15 ?_
  refine lv_icmp_gt (tgt := 22) hx hb dX0_choose_18 (by decide) (fun c5 => ?_) (fun c5 => ?_)
  · have hF := op_pos c5 hF
    refine lv_iload_n hx hb dX0_choose_22 rfl (lv_at hl 2 rfl) ?_
    refine lv_aload_n hx hb dX0_choose_23 rfl (lv_at hl 1 rfl) ?_
    refine va_get (D := D) (ci := 1) (v := .ref ap) (C := RX1) (T := TX1) (N := 9) hx hb hts iX1 hown hK hP 4 rfl rfl 0 (by decide) k_f25 (fun _ h9 => h9) rfl dX0_choose_24 ?_
    refine va_get (D := D) (ci := 2) (v := .int ppe) (C := RX2) (T := TX2) (N := 7) hx hb hts iX2 hown hK hP 9 rfl rfl 2 (by decide) k_f31 (fun _ h9 => h9) rfl dX0_choose_27 ?_
    refine lv_icmp_ge (tgt := 38) hx hb dX0_choose_30 (by decide) (fun c6 => ?_) (fun c6 => ?_)
    · have hF := op_pos c6 hF
      refine lv_aload_n hx hb dX0_choose_38 rfl (lv_at hl 0 rfl) ?_
      refine lv_iload hx hb dX0_choose_39 (lv_at hl 4 rfl) ?_
      obtain ⟨r7, hb8, hF⟩ := op_bind hF
      refine xSr (As := [.int d0]) (rest := [.ref ad]) hC hP hD hS [] (c_J6_bitCount_0f7a4 l D cI cC cM d0 r7 hb8) (va_cwS 1 hts gX0_choose_J6_bitCount_0f7a4 rfl rfl rfl pd_J6_bitCount_0f7a4 ⟨by simp only [rm_X0_choose, rm_J6_bitCount_0f7a4]; omega, by simp only [rm_X0_choose, rm_J6_bitCount_0f7a4]; omega⟩) rfl rfl rfl hl.1 rfl (Nat.le_of_ble_eq_true rfl) dX0_choose_41 ⟨Nat.zero_le _, Nat.zero_le _⟩ (fun H locs hP hS => ?_)
      refine va_put (D := D) (ci := 0) (v := .int r7) (ty := .int) (C := RX0) (T := TX0) (N := 4) hx hb hts iX0 tyX0 tyX0_ok nmX0 hown hK hP hD hS 0 rfl rfl 3 (by decide) k_f21 (fun _ h9 => h9) rfl (by decide +kernel) rfl rfl (Nat.le_of_ble_eq_true rfl) dX0_choose_44 (fun H locs hP hD hS => ?_)
      have hP : va_P D vwCl [(ad, .inr (0, [.ref adc, .ref adb, .ref adr, .int r7])), (adc, .inl (cI, 5, .inl dcho)), (adb, .inl (cI, 5, .inl dbest)), (adr, .inl (cI, 6, .inl dreach)), (aq, .inr (1, [.ref ap, .int qgone, .int qmet, .int qstill, .int qdone, .ref aqh, .ref aqw, .ref aqs, .ref aqu])), (aqh, .inl (cI, 6, .inl qhour)), (aqw, .inl (cI, 6, .inl qworn)), (aqs, .inl (cI, 5, .inl qsquare)), (aqu, .inl (cI, 5, .inl qunder)), (ap, .inr (2, [.int psq, .int ppa, .int ppe, .int pwo, .ref apk, .ref apq, .ref apr])), (apk, .inl (cI, 6, .inl pkind)), (apq, .inl (cI, 6, .inl pwsq)), (apr, .inl (cI, 6, .inl pwhr))] H := hP
      have hD : va_D A [(ad, .inr (0, [.ref adc, .ref adb, .ref adr, .int r7])), (adc, .inl (cI, 5, .inl dcho)), (adb, .inl (cI, 5, .inl dbest)), (adr, .inl (cI, 6, .inl dreach)), (aq, .inr (1, [.ref ap, .int qgone, .int qmet, .int qstill, .int qdone, .ref aqh, .ref aqw, .ref aqs, .ref aqu])), (aqh, .inl (cI, 6, .inl qhour)), (aqw, .inl (cI, 6, .inl qworn)), (aqs, .inl (cI, 5, .inl qsquare)), (aqu, .inl (cI, 5, .inl qunder)), (ap, .inr (2, [.int psq, .int ppa, .int ppe, .int pwo, .ref apk, .ref apq, .ref apr])), (apk, .inl (cI, 6, .inl pkind)), (apq, .inl (cI, 6, .inl pwsq)), (apr, .inl (cI, 6, .inl pwhr))] := hD
      refine lv_aload_n hx hb dX0_choose_47 rfl (lv_at hl 0 rfl) ?_
      refine va_get (D := D) (ci := 0) (v := .ref adc) (C := RX0) (T := TX0) (N := 4) hx hb hts iX0 hown hK hP 0 rfl rfl 0 (by decide) k_f9 (fun _ h9 => h9) rfl dX0_choose_48 ?_
      refine lv_aload_n hx hb dX0_choose_51 rfl (lv_at hl 0 rfl) ?_
      refine va_get (D := D) (ci := 0) (v := .ref adb) (C := RX0) (T := TX0) (N := 4) hx hb hts iX0 hown hK hP 0 rfl rfl 1 (by decide) k_f15 (fun _ h9 => h9) rfl dX0_choose_52 ?_
      obtain ⟨g_9, hb10, hF⟩ := op_bind hF
      refine xNv (As := [.ref adc, .ref adb]) (rest := []) hC hP hD hS [1, 2] (c_X7_copyRow l D cI cC cM adc adb 5 5 dcho dbest g_9 hb10) ⟨va_cnB 2 hts gX0_choose_X7_copyRow_n69 rfl rfl rfl (hG.nw 20 rfl) k_in_X7 pd_X7_copyRow ⟨by simp only [rm_X0_choose, rm_X7_copyRow]; omega, by simp only [rm_X0_choose, rm_X7_copyRow]; omega⟩, k_st_copyRow, trivial⟩ rfl rfl rfl rfl hl.1 rfl (Nat.le_of_ble_eq_true rfl) dX0_choose_55 ⟨Nat.zero_le _, Nat.zero_le _⟩ (fun H locs hP hD hS => ?_)
      have hP : va_P D vwCl [(ad, .inr (0, [.ref adc, .ref adb, .ref adr, .int r7])), (adc, .inl (cI, 5, .inl dcho)), (adb, .inl (cI, 5, .inl g_9)), (adr, .inl (cI, 6, .inl dreach)), (aq, .inr (1, [.ref ap, .int qgone, .int qmet, .int qstill, .int qdone, .ref aqh, .ref aqw, .ref aqs, .ref aqu])), (aqh, .inl (cI, 6, .inl qhour)), (aqw, .inl (cI, 6, .inl qworn)), (aqs, .inl (cI, 5, .inl qsquare)), (aqu, .inl (cI, 5, .inl qunder)), (ap, .inr (2, [.int psq, .int ppa, .int ppe, .int pwo, .ref apk, .ref apq, .ref apr])), (apk, .inl (cI, 6, .inl pkind)), (apq, .inl (cI, 6, .inl pwsq)), (apr, .inl (cI, 6, .inl pwhr))] H := hP
      have hD : va_D A [(ad, .inr (0, [.ref adc, .ref adb, .ref adr, .int r7])), (adc, .inl (cI, 5, .inl dcho)), (adb, .inl (cI, 5, .inl g_9)), (adr, .inl (cI, 6, .inl dreach)), (aq, .inr (1, [.ref ap, .int qgone, .int qmet, .int qstill, .int qdone, .ref aqh, .ref aqw, .ref aqs, .ref aqu])), (aqh, .inl (cI, 6, .inl qhour)), (aqw, .inl (cI, 6, .inl qworn)), (aqs, .inl (cI, 5, .inl qsquare)), (aqu, .inl (cI, 5, .inl qunder)), (ap, .inr (2, [.int psq, .int ppa, .int ppe, .int pwo, .ref apk, .ref apq, .ref apr])), (apk, .inl (cI, 6, .inl pkind)), (apq, .inl (cI, 6, .inl pwsq)), (apr, .inl (cI, 6, .inl pwhr))] := hD
      cases hF
      rw [hQ]
      exact xrv hC hP hS dX0_choose_58
    · have hF := op_neg c6 hF
      refine lv_iload_n hx hb dX0_choose_33 rfl (lv_at hl 2 rfl) ?_
      refine lv_iconst (v := (5 : Int32)) hx hb dX0_choose_34 (by decide) ?_
      refine lv_icmp_lt (tgt := 59) hx hb dX0_choose_35 (by decide) (fun c11 => ?_) (fun c11 => ?_)
      · have hF := op_pos c11 hF
        refine lv_iconst (v := (0 : Int32)) hx hb dX0_choose_59 (by decide) ?_
        refine lv_istore (lv' := [(5, .int (0 : Int32)), (0, .ref ad), (1, .ref aq), (2, .int i), (3, .int u), (4, .int d0)]) hx hb dX0_choose_60 hl (by decide) rfl (fun ls hl => ?_)
        have hL62 : ∀ (k62 : Int32 → Int32 → (Nat → Int32) → (Nat → Int32) → Option (Int32 × (Nat → Int32) × (Nat → Int32))), (∀ (v12 : Int32) (dmost_13 : Int32) (dcho_14 : (Nat → Int32)) (dbest_15 : (Nat → Int32)) (H : Heap) (locs : List Loc), va_P D vwCl [(ad, .inr (0, [.ref adc, .ref adb, .ref adr, .int dmost_13])), (adc, .inl (cI, 5, .inl dcho_14)), (adb, .inl (cI, 5, .inl dbest_15)), (adr, .inl (cI, 6, .inl dreach)), (aq, .inr (1, [.ref ap, .int qgone, .int qmet, .int qstill, .int qdone, .ref aqh, .ref aqw, .ref aqs, .ref aqu])), (aqh, .inl (cI, 6, .inl qhour)), (aqw, .inl (cI, 6, .inl qworn)), (aqs, .inl (cI, 5, .inl qsquare)), (aqu, .inl (cI, 5, .inl qunder)), (ap, .inr (2, [.int psq, .int ppa, .int ppe, .int pwo, .ref apk, .ref apq, .ref apr])), (apk, .inl (cI, 6, .inl pkind)), (apq, .inl (cI, 6, .inl pwsq)), (apr, .inl (cI, 6, .inl pwhr))] H → va_D A [(ad, .inr (0, [.ref adc, .ref adb, .ref adr, .int dmost_13])), (adc, .inl (cI, 5, .inl dcho_14)), (adb, .inl (cI, 5, .inl dbest_15)), (adr, .inl (cI, 6, .inl dreach)), (aq, .inr (1, [.ref ap, .int qgone, .int qmet, .int qstill, .int qdone, .ref aqh, .ref aqw, .ref aqs, .ref aqu])), (aqh, .inl (cI, 6, .inl qhour)), (aqw, .inl (cI, 6, .inl qworn)), (aqs, .inl (cI, 5, .inl qsquare)), (aqu, .inl (cI, 5, .inl qunder)), (ap, .inr (2, [.int psq, .int ppa, .int ppe, .int pwo, .ref apk, .ref apq, .ref apr])), (apk, .inl (cI, 6, .inl pkind)), (apq, .inl (cI, 6, .inl pwsq)), (apr, .inl (cI, 6, .inl pwhr))] → va_S A s.heap H locs → ∀ ls : Array Slot, lv_has ls 6 [(0, .ref ad), (1, .ref aq), (2, .int i), (3, .int u), (4, .int d0)] → k62 v12 dmost_13 dcho_14 dbest_15 = some (dmost', dcho', dbest') → W p l e (rm_X0_choose (nr + 1)) s m args below meth c H locs 0 0 Q (F0 m 131 ls [])) → ∀ (nf62 : Nat) (v12 : Int32) (dmost_13 : Int32) (dcho_14 : (Nat → Int32)) (dbest_15 : (Nat → Int32)) (H : Heap) (locs : List Loc), va_P D vwCl [(ad, .inr (0, [.ref adc, .ref adb, .ref adr, .int dmost_13])), (adc, .inl (cI, 5, .inl dcho_14)), (adb, .inl (cI, 5, .inl dbest_15)), (adr, .inl (cI, 6, .inl dreach)), (aq, .inr (1, [.ref ap, .int qgone, .int qmet, .int qstill, .int qdone, .ref aqh, .ref aqw, .ref aqs, .ref aqu])), (aqh, .inl (cI, 6, .inl qhour)), (aqw, .inl (cI, 6, .inl qworn)), (aqs, .inl (cI, 5, .inl qsquare)), (aqu, .inl (cI, 5, .inl qunder)), (ap, .inr (2, [.int psq, .int ppa, .int ppe, .int pwo, .ref apk, .ref apq, .ref apr])), (apk, .inl (cI, 6, .inl pkind)), (apq, .inl (cI, 6, .inl pwsq)), (apr, .inl (cI, 6, .inl pwhr))] H → va_D A [(ad, .inr (0, [.ref adc, .ref adb, .ref adr, .int dmost_13])), (adc, .inl (cI, 5, .inl dcho_14)), (adb, .inl (cI, 5, .inl dbest_15)), (adr, .inl (cI, 6, .inl dreach)), (aq, .inr (1, [.ref ap, .int qgone, .int qmet, .int qstill, .int qdone, .ref aqh, .ref aqw, .ref aqs, .ref aqu])), (aqh, .inl (cI, 6, .inl qhour)), (aqw, .inl (cI, 6, .inl qworn)), (aqs, .inl (cI, 5, .inl qsquare)), (aqu, .inl (cI, 5, .inl qunder)), (ap, .inr (2, [.int psq, .int ppa, .int ppe, .int pwo, .ref apk, .ref apq, .ref apr])), (apk, .inl (cI, 6, .inl pkind)), (apq, .inl (cI, 6, .inl pwsq)), (apr, .inl (cI, 6, .inl pwhr))] → va_S A s.heap H locs → ∀ ls : Array Slot, lv_has ls 6 [(5, .int v12), (0, .ref ad), (1, .ref aq), (2, .int i), (3, .int u), (4, .int d0)] → f_X0_choose_L62 ppa qstill i u qdone qhour qworn qsquare pwo pwsq pwhr (f_X0_choose nr) dreach qgone qmet qunder psq ppe pkind d0 k62 nf62 v12 dmost_13 dcho_14 dbest_15 = some (dmost', dcho', dbest') → W p l e (rm_X0_choose (nr + 1)) s m args below meth c H locs 0 0 Q (F0 m 62 ls []) := by
          intro k62 hk62 nf62
          induction nf62 with
          | zero =>
            intro v12 dmost_13 dcho_14 dbest_15 H locs hP hD hS ls hl hF
            rw [f_X0_choose_L62_0] at hF
            cases hF
          | succ nf62 ih62 =>
            intro v12 dmost_13 dcho_14 dbest_15 H locs hP hD hS ls hl hF
            rw [f_X0_choose_L62_s] at hF
            refine lv_iload hx hb dX0_choose_62 (lv_at hl 0 rfl) ?_
            refine lv_aload_n hx hb dX0_choose_64 rfl (lv_at hl 2 rfl) ?_
            refine va_get (D := D) (ci := 1) (v := .ref ap) (C := RX1) (T := TX1) (N := 9) hx hb hts iX1 hown hK hP 4 rfl rfl 0 (by decide) k_f25 (fun _ h9 => h9) rfl dX0_choose_65 ?_
            refine va_get (D := D) (ci := 2) (v := .int ppa) (C := RX2) (T := TX2) (N := 7) hx hb hts iX2 hown hK hP 9 rfl rfl 1 (by decide) k_f60 (fun _ h9 => h9) rfl dX0_choose_68 ?_
            refine lv_icmp_ge (tgt := 131) hx hb dX0_choose_71 (by decide) (fun c16 => ?_) (fun c16 => ?_)
            · have hF := op_pos c16 hF
              exact hk62 v12 dmost_13 dcho_14 dbest_15 _ _ hP hD hS _ (lv_sub hl [1, 2, 3, 4, 5] rfl) hF
            · have hF := op_neg c16 hF
              refine lv_aload_n hx hb dX0_choose_74 rfl (lv_at hl 2 rfl) ?_
              refine lv_iload_n hx hb dX0_choose_75 rfl (lv_at hl 3 rfl) ?_
              obtain ⟨r17, hb18, hF⟩ := op_bind hF
              refine xVr (As := [.int i]) (rest := []) hC hP hD hS [4, 5, 6, 7, 8, 9, 10, 11, 12] (c_X1_isStill l D cI cC cM aq aqh aqw aqs aqu ap apk apq apr qgone qmet qstill qdone qhour qworn qsquare qunder psq ppa ppe pwo pkind pwsq pwhr i r17 hb18) (cwV 1 hts gX0_choose_X1_isStill rfl rfl rfl ⟨rfl, pd_X1_isStill⟩ ⟨by simp only [rm_X0_choose, rm_X1_isStill]; omega, by simp only [rm_X0_choose, rm_X1_isStill]; omega⟩) rfl rfl 4 1 rfl rfl rfl rfl hl.1 rfl (Nat.le_of_ble_eq_true rfl) dX0_choose_76 ⟨Nat.zero_le _, Nat.zero_le _⟩ (fun H locs hP hS => ?_)
              refine lv_if_ne (tgt := 131) hx hb dX0_choose_79 (by decide) (fun c19 => ?_) (fun c19 => ?_)
              · have hF := op_neg c19 hF
                exact hk62 v12 dmost_13 dcho_14 dbest_15 _ _ hP hD hS _ (lv_sub hl [1, 2, 3, 4, 5] rfl) hF
              · have hF := op_pos c19 hF
                refine lv_iload_n hx hb dX0_choose_82 rfl (lv_at hl 4 rfl) ?_
                refine lv_iload hx hb dX0_choose_83 (lv_at hl 0 rfl) ?_
                obtain ⟨r20, hb21, hF⟩ := op_bind hF
                refine xNr (As := [.int u, .int v12]) (rest := []) hC hP hD hS [] (c_X7_hasBit l D cI cC cM u v12 r20 hb21) ⟨va_cnB 2 hts gX0_choose_X7_hasBit_n73 rfl rfl rfl (hG.nw 21 rfl) k_in_X7 pd_X7_hasBit ⟨by simp only [rm_X0_choose, rm_X7_hasBit]; omega, by simp only [rm_X0_choose, rm_X7_hasBit]; omega⟩, k_st_hasBit, trivial⟩ rfl rfl rfl hl.1 rfl (Nat.le_of_ble_eq_true rfl) dX0_choose_85 ⟨Nat.zero_le _, Nat.zero_le _⟩ (fun H locs hP hS => ?_)
                refine lv_if_ne (tgt := 125) hx hb dX0_choose_88 (by decide) (fun c22 => ?_) (fun c22 => ?_)
                · have hF := op_neg c22 hF
                  refine lv_iinc (v := (v12 + (1 : Int32))) (lv' := [(5, .int (v12 + (1 : Int32))), (0, .ref ad), (1, .ref aq), (2, .int i), (3, .int u), (4, .int d0)]) hx hb dX0_choose_125 hl (k := 0) rfl (by first | rfl | decide) (by decide) rfl (fun ls hl => ?_)
                  refine lv_goto (tgt := 62) hx hb dX0_choose_128 (by decide) ?_
                  exact ih62 (v12 + (1 : Int32)) dmost_13 dcho_14 dbest_15 _ _ hP hD hS _ (lv_sub hl [0, 1, 2, 3, 4, 5] rfl) hF
                · have hF := op_pos c22 hF
                  refine lv_aload_n hx hb dX0_choose_91 rfl (lv_at hl 1 rfl) ?_
                  refine va_get (D := D) (ci := 0) (v := .ref adc) (C := RX0) (T := TX0) (N := 4) hx hb hts iX0 hown hK hP 0 rfl rfl 0 (by decide) k_f9 (fun _ h9 => h9) rfl dX0_choose_92 ?_
                  refine lv_iload_n hx hb dX0_choose_95 rfl (lv_at hl 3 rfl) ?_
                  refine lv_iload hx hb dX0_choose_96 (lv_at hl 0 rfl) ?_
                  obtain ⟨f_23, hb24, hF⟩ := op_bind hF
                  refine xNv (As := [.ref adc, .int i, .int v12]) (rest := []) hC hP hD hS [1] (c_X7_put l D cI cC cM adc 5 dcho_14 i v12 f_23 hb24) ⟨va_cnB 3 hts gX0_choose_X7_put_n36 rfl rfl rfl (hG.nw 18 rfl) k_in_X7 pd_X7_put ⟨by simp only [rm_X0_choose, rm_X7_put]; omega, by simp only [rm_X0_choose, rm_X7_put]; omega⟩, k_st_put, trivial⟩ rfl rfl rfl rfl hl.1 rfl (Nat.le_of_ble_eq_true rfl) dX0_choose_98 ⟨Nat.zero_le _, Nat.zero_le _⟩ (fun H locs hP hD hS => ?_)
                  have hP : va_P D vwCl [(ad, .inr (0, [.ref adc, .ref adb, .ref adr, .int dmost_13])), (adc, .inl (cI, 5, .inl f_23)), (adb, .inl (cI, 5, .inl dbest_15)), (adr, .inl (cI, 6, .inl dreach)), (aq, .inr (1, [.ref ap, .int qgone, .int qmet, .int qstill, .int qdone, .ref aqh, .ref aqw, .ref aqs, .ref aqu])), (aqh, .inl (cI, 6, .inl qhour)), (aqw, .inl (cI, 6, .inl qworn)), (aqs, .inl (cI, 5, .inl qsquare)), (aqu, .inl (cI, 5, .inl qunder)), (ap, .inr (2, [.int psq, .int ppa, .int ppe, .int pwo, .ref apk, .ref apq, .ref apr])), (apk, .inl (cI, 6, .inl pkind)), (apq, .inl (cI, 6, .inl pwsq)), (apr, .inl (cI, 6, .inl pwhr))] H := hP
                  have hD : va_D A [(ad, .inr (0, [.ref adc, .ref adb, .ref adr, .int dmost_13])), (adc, .inl (cI, 5, .inl f_23)), (adb, .inl (cI, 5, .inl dbest_15)), (adr, .inl (cI, 6, .inl dreach)), (aq, .inr (1, [.ref ap, .int qgone, .int qmet, .int qstill, .int qdone, .ref aqh, .ref aqw, .ref aqs, .ref aqu])), (aqh, .inl (cI, 6, .inl qhour)), (aqw, .inl (cI, 6, .inl qworn)), (aqs, .inl (cI, 5, .inl qsquare)), (aqu, .inl (cI, 5, .inl qunder)), (ap, .inr (2, [.int psq, .int ppa, .int ppe, .int pwo, .ref apk, .ref apq, .ref apr])), (apk, .inl (cI, 6, .inl pkind)), (apq, .inl (cI, 6, .inl pwsq)), (apr, .inl (cI, 6, .inl pwhr))] := hD
                  refine lv_aload_n hx hb dX0_choose_101 rfl (lv_at hl 1 rfl) ?_
                  refine lv_aload_n hx hb dX0_choose_102 rfl (lv_at hl 2 rfl) ?_
                  refine lv_iload_n hx hb dX0_choose_103 rfl (lv_at hl 3 rfl) ?_
                  refine lv_iconst (v := (1 : Int32)) hx hb dX0_choose_104 (by decide) ?_
                  refine lv_iadd hx hb dX0_choose_105 ?_
                  refine lv_iload_n hx hb dX0_choose_106 rfl (lv_at hl 4 rfl) ?_
                  refine lv_iconst (v := (1 : Int32)) hx hb dX0_choose_107 (by decide) ?_
                  refine lv_iload hx hb dX0_choose_108 (lv_at hl 0 rfl) ?_
                  refine lv_ishl hx hb dX0_choose_110 ?_
                  refine lv_ior hx hb dX0_choose_111 ?_
                  refine lv_iload hx hb dX0_choose_112 (lv_at hl 5 rfl) ?_
                  refine lv_aload_n hx hb dX0_choose_114 rfl (lv_at hl 2 rfl) ?_
                  refine lv_iload_n hx hb dX0_choose_115 rfl (lv_at hl 3 rfl) ?_
                  refine lv_iload hx hb dX0_choose_116 (lv_at hl 0 rfl) ?_
                  obtain ⟨r25, hb26, hF⟩ := op_bind hF
                  refine xVr (As := [.int i, .int v12]) (rest := [.int d0, .int (u ||| ((1 : Int32) <<< (v12 &&& 31))), .int (i + (1 : Int32)), .ref aq, .ref ad]) hC hP hD hS [4, 5, 6, 7, 8, 9, 10, 11, 12] (c_X1_worksOf l D cI cC cM aq aqh aqw aqs aqu ap apk apq apr qgone qmet qstill qdone qhour qworn qsquare qunder psq ppa ppe pwo pkind pwsq pwhr i v12 r25 hb26) (cwV 2 hts gX0_choose_X1_worksOf rfl rfl rfl ⟨rfl, pd_X1_worksOf⟩ ⟨by simp only [rm_X0_choose, rm_X1_worksOf]; omega, by simp only [rm_X0_choose, rm_X1_worksOf]; omega⟩) rfl rfl 4 1 rfl rfl rfl rfl hl.1 rfl (Nat.le_of_ble_eq_true rfl) dX0_choose_118 ⟨Nat.zero_le _, Nat.zero_le _⟩ (fun H locs hP hS => ?_)
                  refine lv_ior hx hb dX0_choose_121 ?_
                  obtain ⟨⟨dmost_27, dcho_28, dbest_29⟩, hb30, hF⟩ := op_bind hF
                  refine xSv (As := [.ref ad, .ref aq, .int (i + (1 : Int32)), .int (u ||| ((1 : Int32) <<< (v12 &&& 31))), .int (d0 ||| r25)]) (rest := []) hC hP hD hS [0, 1, 2, 3, 4, 5, 6, 7, 8, 9, 10, 11, 12] (ihr l D cI cC cM ad adc adb adr aq aqh aqw aqs aqu ap apk apq apr dmost_13 f_23 dbest_15 dreach qgone qmet qstill qdone qhour qworn qsquare qunder psq ppa ppe pwo pkind pwsq pwhr (i + (1 : Int32)) (u ||| ((1 : Int32) <<< (v12 &&& 31))) (d0 ||| r25) dmost_27 dcho_28 dbest_29 hb30) (va_cwS 5 hts gX0_choose_X0_choose rfl rfl rfl pd_X0_choose ⟨by simp only [rm_X0_choose, rm_X0_choose]; omega, by simp only [rm_X0_choose, rm_X0_choose]; omega⟩) rfl rfl rfl rfl hl.1 rfl (Nat.le_of_ble_eq_true rfl) dX0_choose_122 ⟨Nat.zero_le _, Nat.zero_le _⟩ (fun H locs hP hD hS => ?_)
                  have hP : va_P D vwCl [(ad, .inr (0, [.ref adc, .ref adb, .ref adr, .int dmost_27])), (adc, .inl (cI, 5, .inl dcho_28)), (adb, .inl (cI, 5, .inl dbest_29)), (adr, .inl (cI, 6, .inl dreach)), (aq, .inr (1, [.ref ap, .int qgone, .int qmet, .int qstill, .int qdone, .ref aqh, .ref aqw, .ref aqs, .ref aqu])), (aqh, .inl (cI, 6, .inl qhour)), (aqw, .inl (cI, 6, .inl qworn)), (aqs, .inl (cI, 5, .inl qsquare)), (aqu, .inl (cI, 5, .inl qunder)), (ap, .inr (2, [.int psq, .int ppa, .int ppe, .int pwo, .ref apk, .ref apq, .ref apr])), (apk, .inl (cI, 6, .inl pkind)), (apq, .inl (cI, 6, .inl pwsq)), (apr, .inl (cI, 6, .inl pwhr))] H := hP
                  have hD : va_D A [(ad, .inr (0, [.ref adc, .ref adb, .ref adr, .int dmost_27])), (adc, .inl (cI, 5, .inl dcho_28)), (adb, .inl (cI, 5, .inl dbest_29)), (adr, .inl (cI, 6, .inl dreach)), (aq, .inr (1, [.ref ap, .int qgone, .int qmet, .int qstill, .int qdone, .ref aqh, .ref aqw, .ref aqs, .ref aqu])), (aqh, .inl (cI, 6, .inl qhour)), (aqw, .inl (cI, 6, .inl qworn)), (aqs, .inl (cI, 5, .inl qsquare)), (aqu, .inl (cI, 5, .inl qunder)), (ap, .inr (2, [.int psq, .int ppa, .int ppe, .int pwo, .ref apk, .ref apq, .ref apr])), (apk, .inl (cI, 6, .inl pkind)), (apq, .inl (cI, 6, .inl pwsq)), (apr, .inl (cI, 6, .inl pwhr))] := hD
                  refine lv_iinc (v := (v12 + (1 : Int32))) (lv' := [(5, .int (v12 + (1 : Int32))), (0, .ref ad), (1, .ref aq), (2, .int i), (3, .int u), (4, .int d0)]) hx hb dX0_choose_125 hl (k := 0) rfl (by first | rfl | decide) (by decide) rfl (fun ls hl => ?_)
                  refine lv_goto (tgt := 62) hx hb dX0_choose_128 (by decide) ?_
                  exact ih62 (v12 + (1 : Int32)) dmost_27 dcho_28 dbest_29 _ _ hP hD hS _ (lv_sub hl [0, 1, 2, 3, 4, 5] rfl) hF
        refine hL62 _ (fun v12 dmost_13 dcho_14 dbest_15 H locs hP hD hS ls hl hF => ?_) 20000 (0 : Int32) dmost dcho dbest _ _ hP hD hS _ (lv_sub hl [0, 1, 2, 3, 4, 5] rfl) hF
        refine lv_aload_n hx hb dX0_choose_131 rfl (lv_at hl 0 rfl) ?_
        refine va_get (D := D) (ci := 0) (v := .ref adc) (C := RX0) (T := TX0) (N := 4) hx hb hts iX0 hown hK hP 0 rfl rfl 0 (by decide) k_f9 (fun _ h9 => h9) rfl dX0_choose_132 ?_
        refine lv_iload_n hx hb dX0_choose_135 rfl (lv_at hl 2 rfl) ?_
        refine lv_bipush (v := (-4 : Int32)) hx hb dX0_choose_136 (by decide) ?_
        obtain ⟨f_31, hb32, hF⟩ := op_bind hF
        refine xNv (As := [.ref adc, .int i, .int (-4 : Int32)]) (rest := []) hC hP hD hS [1] (c_X7_put l D cI cC cM adc 5 dcho_14 i (-4 : Int32) f_31 hb32) ⟨va_cnB 3 hts gX0_choose_X7_put_n36 rfl rfl rfl (hG.nw 18 rfl) k_in_X7 pd_X7_put ⟨by simp only [rm_X0_choose, rm_X7_put]; omega, by simp only [rm_X0_choose, rm_X7_put]; omega⟩, k_st_put, trivial⟩ rfl rfl rfl rfl hl.1 rfl (Nat.le_of_ble_eq_true rfl) dX0_choose_138 ⟨Nat.zero_le _, Nat.zero_le _⟩ (fun H locs hP hD hS => ?_)
        have hP : va_P D vwCl [(ad, .inr (0, [.ref adc, .ref adb, .ref adr, .int dmost_13])), (adc, .inl (cI, 5, .inl f_31)), (adb, .inl (cI, 5, .inl dbest_15)), (adr, .inl (cI, 6, .inl dreach)), (aq, .inr (1, [.ref ap, .int qgone, .int qmet, .int qstill, .int qdone, .ref aqh, .ref aqw, .ref aqs, .ref aqu])), (aqh, .inl (cI, 6, .inl qhour)), (aqw, .inl (cI, 6, .inl qworn)), (aqs, .inl (cI, 5, .inl qsquare)), (aqu, .inl (cI, 5, .inl qunder)), (ap, .inr (2, [.int psq, .int ppa, .int ppe, .int pwo, .ref apk, .ref apq, .ref apr])), (apk, .inl (cI, 6, .inl pkind)), (apq, .inl (cI, 6, .inl pwsq)), (apr, .inl (cI, 6, .inl pwhr))] H := hP
        have hD : va_D A [(ad, .inr (0, [.ref adc, .ref adb, .ref adr, .int dmost_13])), (adc, .inl (cI, 5, .inl f_31)), (adb, .inl (cI, 5, .inl dbest_15)), (adr, .inl (cI, 6, .inl dreach)), (aq, .inr (1, [.ref ap, .int qgone, .int qmet, .int qstill, .int qdone, .ref aqh, .ref aqw, .ref aqs, .ref aqu])), (aqh, .inl (cI, 6, .inl qhour)), (aqw, .inl (cI, 6, .inl qworn)), (aqs, .inl (cI, 5, .inl qsquare)), (aqu, .inl (cI, 5, .inl qunder)), (ap, .inr (2, [.int psq, .int ppa, .int ppe, .int pwo, .ref apk, .ref apq, .ref apr])), (apk, .inl (cI, 6, .inl pkind)), (apq, .inl (cI, 6, .inl pwsq)), (apr, .inl (cI, 6, .inl pwhr))] := hD
        refine lv_aload_n hx hb dX0_choose_141 rfl (lv_at hl 0 rfl) ?_
        refine lv_aload_n hx hb dX0_choose_142 rfl (lv_at hl 1 rfl) ?_
        refine lv_iload_n hx hb dX0_choose_143 rfl (lv_at hl 2 rfl) ?_
        refine lv_iconst (v := (1 : Int32)) hx hb dX0_choose_144 (by decide) ?_
        refine lv_iadd hx hb dX0_choose_145 ?_
        refine lv_iload_n hx hb dX0_choose_146 rfl (lv_at hl 3 rfl) ?_
        refine lv_aload_n hx hb dX0_choose_147 rfl (lv_at hl 1 rfl) ?_
        refine lv_iload_n hx hb dX0_choose_148 rfl (lv_at hl 2 rfl) ?_
        obtain ⟨r33, hb34, hF⟩ := op_bind hF
        refine xVr (As := [.int i]) (rest := [.int u, .int (i + (1 : Int32)), .ref aq, .ref ad]) hC hP hD hS [4, 5, 6, 7, 8, 9, 10, 11, 12] (c_X1_isStill l D cI cC cM aq aqh aqw aqs aqu ap apk apq apr qgone qmet qstill qdone qhour qworn qsquare qunder psq ppa ppe pwo pkind pwsq pwhr i r33 hb34) (cwV 1 hts gX0_choose_X1_isStill rfl rfl rfl ⟨rfl, pd_X1_isStill⟩ ⟨by simp only [rm_X0_choose, rm_X1_isStill]; omega, by simp only [rm_X0_choose, rm_X1_isStill]; omega⟩) rfl rfl 4 1 rfl rfl rfl rfl hl.1 rfl (Nat.le_of_ble_eq_true rfl) dX0_choose_149 ⟨Nat.zero_le _, Nat.zero_le _⟩ (fun H locs hP hS => ?_)
        refine lv_if_eq (tgt := 160) hx hb dX0_choose_152 (by decide) (fun c35 => ?_) (fun c35 => ?_)
        · have hF := op_pos c35 hF
          refine lv_iload hx hb dX0_choose_160 (lv_at hl 4 rfl) ?_
          refine lv_aload_n hx hb dX0_choose_162 rfl (lv_at hl 1 rfl) ?_
          refine lv_iload_n hx hb dX0_choose_163 rfl (lv_at hl 2 rfl) ?_
          refine lv_bipush (v := (-4 : Int32)) hx hb dX0_choose_164 (by decide) ?_
          obtain ⟨r36, hb37, hF⟩ := op_bind hF
          refine xVr (As := [.int i, .int (-4 : Int32)]) (rest := [.int d0, .int u, .int (i + (1 : Int32)), .ref aq, .ref ad]) hC hP hD hS [4, 5, 6, 7, 8, 9, 10, 11, 12] (c_X1_worksOf l D cI cC cM aq aqh aqw aqs aqu ap apk apq apr qgone qmet qstill qdone qhour qworn qsquare qunder psq ppa ppe pwo pkind pwsq pwhr i (-4 : Int32) r36 hb37) (cwV 2 hts gX0_choose_X1_worksOf rfl rfl rfl ⟨rfl, pd_X1_worksOf⟩ ⟨by simp only [rm_X0_choose, rm_X1_worksOf]; omega, by simp only [rm_X0_choose, rm_X1_worksOf]; omega⟩) rfl rfl 4 1 rfl rfl rfl rfl hl.1 rfl (Nat.le_of_ble_eq_true rfl) dX0_choose_166 ⟨Nat.zero_le _, Nat.zero_le _⟩ (fun H locs hP hS => ?_)
          refine lv_ior hx hb dX0_choose_169 ?_
          obtain ⟨⟨dmost_38, dcho_39, dbest_40⟩, hb41, hF⟩ := op_bind hF
          refine xSv (As := [.ref ad, .ref aq, .int (i + (1 : Int32)), .int u, .int (d0 ||| r36)]) (rest := []) hC hP hD hS [0, 1, 2, 3, 4, 5, 6, 7, 8, 9, 10, 11, 12] (ihr l D cI cC cM ad adc adb adr aq aqh aqw aqs aqu ap apk apq apr dmost_13 f_31 dbest_15 dreach qgone qmet qstill qdone qhour qworn qsquare qunder psq ppa ppe pwo pkind pwsq pwhr (i + (1 : Int32)) u (d0 ||| r36) dmost_38 dcho_39 dbest_40 hb41) (va_cwS 5 hts gX0_choose_X0_choose rfl rfl rfl pd_X0_choose ⟨by simp only [rm_X0_choose, rm_X0_choose]; omega, by simp only [rm_X0_choose, rm_X0_choose]; omega⟩) rfl rfl rfl rfl hl.1 rfl (Nat.le_of_ble_eq_true rfl) dX0_choose_170 ⟨Nat.zero_le _, Nat.zero_le _⟩ (fun H locs hP hD hS => ?_)
          have hP : va_P D vwCl [(ad, .inr (0, [.ref adc, .ref adb, .ref adr, .int dmost_38])), (adc, .inl (cI, 5, .inl dcho_39)), (adb, .inl (cI, 5, .inl dbest_40)), (adr, .inl (cI, 6, .inl dreach)), (aq, .inr (1, [.ref ap, .int qgone, .int qmet, .int qstill, .int qdone, .ref aqh, .ref aqw, .ref aqs, .ref aqu])), (aqh, .inl (cI, 6, .inl qhour)), (aqw, .inl (cI, 6, .inl qworn)), (aqs, .inl (cI, 5, .inl qsquare)), (aqu, .inl (cI, 5, .inl qunder)), (ap, .inr (2, [.int psq, .int ppa, .int ppe, .int pwo, .ref apk, .ref apq, .ref apr])), (apk, .inl (cI, 6, .inl pkind)), (apq, .inl (cI, 6, .inl pwsq)), (apr, .inl (cI, 6, .inl pwhr))] H := hP
          have hD : va_D A [(ad, .inr (0, [.ref adc, .ref adb, .ref adr, .int dmost_38])), (adc, .inl (cI, 5, .inl dcho_39)), (adb, .inl (cI, 5, .inl dbest_40)), (adr, .inl (cI, 6, .inl dreach)), (aq, .inr (1, [.ref ap, .int qgone, .int qmet, .int qstill, .int qdone, .ref aqh, .ref aqw, .ref aqs, .ref aqu])), (aqh, .inl (cI, 6, .inl qhour)), (aqw, .inl (cI, 6, .inl qworn)), (aqs, .inl (cI, 5, .inl qsquare)), (aqu, .inl (cI, 5, .inl qunder)), (ap, .inr (2, [.int psq, .int ppa, .int ppe, .int pwo, .ref apk, .ref apq, .ref apr])), (apk, .inl (cI, 6, .inl pkind)), (apq, .inl (cI, 6, .inl pwsq)), (apr, .inl (cI, 6, .inl pwhr))] := hD
          cases hF
          rw [hQ]
          exact xrv hC hP hS dX0_choose_173
        · have hF := op_neg c35 hF
          refine lv_iload hx hb dX0_choose_155 (lv_at hl 4 rfl) ?_
          refine lv_goto (tgt := 170) hx hb dX0_choose_157 (by decide) ?_
          obtain ⟨⟨dmost_42, dcho_43, dbest_44⟩, hb45, hF⟩ := op_bind hF
          refine xSv (As := [.ref ad, .ref aq, .int (i + (1 : Int32)), .int u, .int d0]) (rest := []) hC hP hD hS [0, 1, 2, 3, 4, 5, 6, 7, 8, 9, 10, 11, 12] (ihr l D cI cC cM ad adc adb adr aq aqh aqw aqs aqu ap apk apq apr dmost_13 f_31 dbest_15 dreach qgone qmet qstill qdone qhour qworn qsquare qunder psq ppa ppe pwo pkind pwsq pwhr (i + (1 : Int32)) u d0 dmost_42 dcho_43 dbest_44 hb45) (va_cwS 5 hts gX0_choose_X0_choose rfl rfl rfl pd_X0_choose ⟨by simp only [rm_X0_choose, rm_X0_choose]; omega, by simp only [rm_X0_choose, rm_X0_choose]; omega⟩) rfl rfl rfl rfl hl.1 rfl (Nat.le_of_ble_eq_true rfl) dX0_choose_170 ⟨Nat.zero_le _, Nat.zero_le _⟩ (fun H locs hP hD hS => ?_)
          have hP : va_P D vwCl [(ad, .inr (0, [.ref adc, .ref adb, .ref adr, .int dmost_42])), (adc, .inl (cI, 5, .inl dcho_43)), (adb, .inl (cI, 5, .inl dbest_44)), (adr, .inl (cI, 6, .inl dreach)), (aq, .inr (1, [.ref ap, .int qgone, .int qmet, .int qstill, .int qdone, .ref aqh, .ref aqw, .ref aqs, .ref aqu])), (aqh, .inl (cI, 6, .inl qhour)), (aqw, .inl (cI, 6, .inl qworn)), (aqs, .inl (cI, 5, .inl qsquare)), (aqu, .inl (cI, 5, .inl qunder)), (ap, .inr (2, [.int psq, .int ppa, .int ppe, .int pwo, .ref apk, .ref apq, .ref apr])), (apk, .inl (cI, 6, .inl pkind)), (apq, .inl (cI, 6, .inl pwsq)), (apr, .inl (cI, 6, .inl pwhr))] H := hP
          have hD : va_D A [(ad, .inr (0, [.ref adc, .ref adb, .ref adr, .int dmost_42])), (adc, .inl (cI, 5, .inl dcho_43)), (adb, .inl (cI, 5, .inl dbest_44)), (adr, .inl (cI, 6, .inl dreach)), (aq, .inr (1, [.ref ap, .int qgone, .int qmet, .int qstill, .int qdone, .ref aqh, .ref aqw, .ref aqs, .ref aqu])), (aqh, .inl (cI, 6, .inl qhour)), (aqw, .inl (cI, 6, .inl qworn)), (aqs, .inl (cI, 5, .inl qsquare)), (aqu, .inl (cI, 5, .inl qunder)), (ap, .inr (2, [.int psq, .int ppa, .int ppe, .int pwo, .ref apk, .ref apq, .ref apr])), (apk, .inl (cI, 6, .inl pkind)), (apq, .inl (cI, 6, .inl pwsq)), (apr, .inl (cI, 6, .inl pwhr))] := hD
          cases hF
          rw [hQ]
          exact xrv hC hP hS dX0_choose_173
      · have hF := op_neg c11 hF
        refine lv_aload_n hx hb dX0_choose_38 rfl (lv_at hl 0 rfl) ?_
        refine lv_iload hx hb dX0_choose_39 (lv_at hl 4 rfl) ?_
        obtain ⟨r46, hb47, hF⟩ := op_bind hF
        refine xSr (As := [.int d0]) (rest := [.ref ad]) hC hP hD hS [] (c_J6_bitCount_0f7a4 l D cI cC cM d0 r46 hb47) (va_cwS 1 hts gX0_choose_J6_bitCount_0f7a4 rfl rfl rfl pd_J6_bitCount_0f7a4 ⟨by simp only [rm_X0_choose, rm_J6_bitCount_0f7a4]; omega, by simp only [rm_X0_choose, rm_J6_bitCount_0f7a4]; omega⟩) rfl rfl rfl hl.1 rfl (Nat.le_of_ble_eq_true rfl) dX0_choose_41 ⟨Nat.zero_le _, Nat.zero_le _⟩ (fun H locs hP hS => ?_)
        refine va_put (D := D) (ci := 0) (v := .int r46) (ty := .int) (C := RX0) (T := TX0) (N := 4) hx hb hts iX0 tyX0 tyX0_ok nmX0 hown hK hP hD hS 0 rfl rfl 3 (by decide) k_f21 (fun _ h9 => h9) rfl (by decide +kernel) rfl rfl (Nat.le_of_ble_eq_true rfl) dX0_choose_44 (fun H locs hP hD hS => ?_)
        have hP : va_P D vwCl [(ad, .inr (0, [.ref adc, .ref adb, .ref adr, .int r46])), (adc, .inl (cI, 5, .inl dcho)), (adb, .inl (cI, 5, .inl dbest)), (adr, .inl (cI, 6, .inl dreach)), (aq, .inr (1, [.ref ap, .int qgone, .int qmet, .int qstill, .int qdone, .ref aqh, .ref aqw, .ref aqs, .ref aqu])), (aqh, .inl (cI, 6, .inl qhour)), (aqw, .inl (cI, 6, .inl qworn)), (aqs, .inl (cI, 5, .inl qsquare)), (aqu, .inl (cI, 5, .inl qunder)), (ap, .inr (2, [.int psq, .int ppa, .int ppe, .int pwo, .ref apk, .ref apq, .ref apr])), (apk, .inl (cI, 6, .inl pkind)), (apq, .inl (cI, 6, .inl pwsq)), (apr, .inl (cI, 6, .inl pwhr))] H := hP
        have hD : va_D A [(ad, .inr (0, [.ref adc, .ref adb, .ref adr, .int r46])), (adc, .inl (cI, 5, .inl dcho)), (adb, .inl (cI, 5, .inl dbest)), (adr, .inl (cI, 6, .inl dreach)), (aq, .inr (1, [.ref ap, .int qgone, .int qmet, .int qstill, .int qdone, .ref aqh, .ref aqw, .ref aqs, .ref aqu])), (aqh, .inl (cI, 6, .inl qhour)), (aqw, .inl (cI, 6, .inl qworn)), (aqs, .inl (cI, 5, .inl qsquare)), (aqu, .inl (cI, 5, .inl qunder)), (ap, .inr (2, [.int psq, .int ppa, .int ppe, .int pwo, .ref apk, .ref apq, .ref apr])), (apk, .inl (cI, 6, .inl pkind)), (apq, .inl (cI, 6, .inl pwsq)), (apr, .inl (cI, 6, .inl pwhr))] := hD
        refine lv_aload_n hx hb dX0_choose_47 rfl (lv_at hl 0 rfl) ?_
        refine va_get (D := D) (ci := 0) (v := .ref adc) (C := RX0) (T := TX0) (N := 4) hx hb hts iX0 hown hK hP 0 rfl rfl 0 (by decide) k_f9 (fun _ h9 => h9) rfl dX0_choose_48 ?_
        refine lv_aload_n hx hb dX0_choose_51 rfl (lv_at hl 0 rfl) ?_
        refine va_get (D := D) (ci := 0) (v := .ref adb) (C := RX0) (T := TX0) (N := 4) hx hb hts iX0 hown hK hP 0 rfl rfl 1 (by decide) k_f15 (fun _ h9 => h9) rfl dX0_choose_52 ?_
        obtain ⟨g_48, hb49, hF⟩ := op_bind hF
        refine xNv (As := [.ref adc, .ref adb]) (rest := []) hC hP hD hS [1, 2] (c_X7_copyRow l D cI cC cM adc adb 5 5 dcho dbest g_48 hb49) ⟨va_cnB 2 hts gX0_choose_X7_copyRow_n69 rfl rfl rfl (hG.nw 20 rfl) k_in_X7 pd_X7_copyRow ⟨by simp only [rm_X0_choose, rm_X7_copyRow]; omega, by simp only [rm_X0_choose, rm_X7_copyRow]; omega⟩, k_st_copyRow, trivial⟩ rfl rfl rfl rfl hl.1 rfl (Nat.le_of_ble_eq_true rfl) dX0_choose_55 ⟨Nat.zero_le _, Nat.zero_le _⟩ (fun H locs hP hD hS => ?_)
        have hP : va_P D vwCl [(ad, .inr (0, [.ref adc, .ref adb, .ref adr, .int r46])), (adc, .inl (cI, 5, .inl dcho)), (adb, .inl (cI, 5, .inl g_48)), (adr, .inl (cI, 6, .inl dreach)), (aq, .inr (1, [.ref ap, .int qgone, .int qmet, .int qstill, .int qdone, .ref aqh, .ref aqw, .ref aqs, .ref aqu])), (aqh, .inl (cI, 6, .inl qhour)), (aqw, .inl (cI, 6, .inl qworn)), (aqs, .inl (cI, 5, .inl qsquare)), (aqu, .inl (cI, 5, .inl qunder)), (ap, .inr (2, [.int psq, .int ppa, .int ppe, .int pwo, .ref apk, .ref apq, .ref apr])), (apk, .inl (cI, 6, .inl pkind)), (apq, .inl (cI, 6, .inl pwsq)), (apr, .inl (cI, 6, .inl pwhr))] H := hP
        have hD : va_D A [(ad, .inr (0, [.ref adc, .ref adb, .ref adr, .int r46])), (adc, .inl (cI, 5, .inl dcho)), (adb, .inl (cI, 5, .inl g_48)), (adr, .inl (cI, 6, .inl dreach)), (aq, .inr (1, [.ref ap, .int qgone, .int qmet, .int qstill, .int qdone, .ref aqh, .ref aqw, .ref aqs, .ref aqu])), (aqh, .inl (cI, 6, .inl qhour)), (aqw, .inl (cI, 6, .inl qworn)), (aqs, .inl (cI, 5, .inl qsquare)), (aqu, .inl (cI, 5, .inl qunder)), (ap, .inr (2, [.int psq, .int ppa, .int ppe, .int pwo, .ref apk, .ref apq, .ref apr])), (apk, .inl (cI, 6, .inl pkind)), (apq, .inl (cI, 6, .inl pwsq)), (apr, .inl (cI, 6, .inl pwhr))] := hD
        cases hF
        rw [hQ]
        exact xrv hC hP hS dX0_choose_58
  · have hF := op_neg c5 hF
    cases hF
    rw [hQ]
    exact xrv hC hP hS dX0_choose_21
theorem c_X0_choose (nr : Nat) : T_X0_choose nr := by
  induction nr with
  | zero =>
    intro l D cI cC cM ad adc adb adr aq aqh aqw aqs aqu ap apk apq apr dmost dcho dbest dreach qgone qmet qstill qdone qhour qworn qsquare qunder psq ppa ppe pwo pkind pwsq pwhr i u d0 dmost' dcho' dbest' hF
    rw [f_X0_choose_0] at hF
    cases hF
  | succ nr ih => exact c_X0_choose_s nr ih

def f_X0_findBest_L30 (qstill : Int32) (qdone : Int32) (qhour : (Nat → Int32)) (qworn : (Nat → Int32)) (qsquare : (Nat → Int32)) (ppa : Int32) (pwo : Int32) (pwsq : (Nat → Int32)) (pwhr : (Nat → Int32)) (k30 : Int32 → (Nat → Int32) → Option (Int32 × (Nat → Int32) × (Nat → Int32) × (Nat → Int32))) : Nat → Int32 → (Nat → Int32) → Option (Int32 × (Nat → Int32) × (Nat → Int32) × (Nat → Int32))
  | 0, _, _ => none
  | nf30 + 1, v3, dreach_4 => (if v3 < 0 then (k30 v3 dreach_4) else (Option.bind (f_X7_at 6 dreach_4 (v3 + (1 : Int32))) fun r6 => (Option.bind (f_X0_reachOf qstill qdone qhour qworn qsquare ppa pwo pwsq pwhr v3) fun r8 => (Option.bind (f_X7_put 6 dreach_4 v3 (r6 ||| r8)) fun f_10 => (f_X0_findBest_L30 qstill qdone qhour qworn qsquare ppa pwo pwsq pwhr k30 nf30 (v3 + (-1 : Int32)) f_10)))))
theorem f_X0_findBest_L30_0 (qstill : Int32) (qdone : Int32) (qhour : (Nat → Int32)) (qworn : (Nat → Int32)) (qsquare : (Nat → Int32)) (ppa : Int32) (pwo : Int32) (pwsq : (Nat → Int32)) (pwhr : (Nat → Int32)) (k30 : Int32 → (Nat → Int32) → Option (Int32 × (Nat → Int32) × (Nat → Int32) × (Nat → Int32))) (v3 : Int32) (dreach_4 : (Nat → Int32)) : f_X0_findBest_L30 qstill qdone qhour qworn qsquare ppa pwo pwsq pwhr k30 0 v3 dreach_4 = none := rfl
theorem f_X0_findBest_L30_s (qstill : Int32) (qdone : Int32) (qhour : (Nat → Int32)) (qworn : (Nat → Int32)) (qsquare : (Nat → Int32)) (ppa : Int32) (pwo : Int32) (pwsq : (Nat → Int32)) (pwhr : (Nat → Int32)) (k30 : Int32 → (Nat → Int32) → Option (Int32 × (Nat → Int32) × (Nat → Int32) × (Nat → Int32))) (nf30 : Nat) (v3 : Int32) (dreach_4 : (Nat → Int32)) : f_X0_findBest_L30 qstill qdone qhour qworn qsquare ppa pwo pwsq pwhr k30 (nf30 + 1) v3 dreach_4 = (if v3 < 0 then (k30 v3 dreach_4) else (Option.bind (f_X7_at 6 dreach_4 (v3 + (1 : Int32))) fun r6 => (Option.bind (f_X0_reachOf qstill qdone qhour qworn qsquare ppa pwo pwsq pwhr v3) fun r8 => (Option.bind (f_X7_put 6 dreach_4 v3 (r6 ||| r8)) fun f_10 => (f_X0_findBest_L30 qstill qdone qhour qworn qsquare ppa pwo pwsq pwhr k30 nf30 (v3 + (-1 : Int32)) f_10))))) := rfl

def f_X0_findBest (dcho : (Nat → Int32)) (dbest : (Nat → Int32)) (dreach : (Nat → Int32)) (qgone : Int32) (qmet : Int32) (qstill : Int32) (qdone : Int32) (qhour : (Nat → Int32)) (qworn : (Nat → Int32)) (qsquare : (Nat → Int32)) (qunder : (Nat → Int32)) (psq : Int32) (ppa : Int32) (ppe : Int32) (pwo : Int32) (pkind : (Nat → Int32)) (pwsq : (Nat → Int32)) (pwhr : (Nat → Int32)) : Option (Int32 × (Nat → Int32) × (Nat → Int32) × (Nat → Int32)) := (Option.bind (f_X7_put 6 dreach ppe (0 : Int32)) fun f_1 => (f_X0_findBest_L30 qstill qdone qhour qworn qsquare ppa pwo pwsq pwhr (fun (v3 : Int32) (dreach_4 : (Nat → Int32)) => (Option.bind (f_X0_choose 7 (-1 : Int32) dcho dbest dreach_4 qgone qmet qstill qdone qhour qworn qsquare qunder psq ppa ppe pwo pkind pwsq pwhr (0 : Int32) (0 : Int32) (0 : Int32)) fun (dmost_12, dcho_13, dbest_14) => (some (dmost_12, dcho_13, dbest_14, dreach_4)))) 20000 (ppe - (1 : Int32)) f_1))

def rm_X0_findBest : Room := { frames := 12, cells := 0, slots := 0, locals := 290 }

theorem pd_X0_findBest : yX0_findBest.cls ≠ "java/lang/invoke/MethodHandle" ∧ yX0_findBest.cls ≠ "java/lang/invoke/VarHandle" ∧ (parseMethodDescriptor yX0_findBest.desc).map (fun d => d.parameters.length) = some 1 := by decide +kernel

set_option maxHeartbeats 4000000 in
set_option maxRecDepth 100000 in
theorem c_X0_findBest (l : Launch) (D : va_G) (cI cC cM : ClassId) (ad adc adb adr aq aqh aqw aqs aqu ap apk apq apr : Nat) (dmost : Int32) (dcho : (Nat → Int32)) (dbest : (Nat → Int32)) (dreach : (Nat → Int32)) (qgone : Int32) (qmet : Int32) (qstill : Int32) (qdone : Int32) (qhour : (Nat → Int32)) (qworn : (Nat → Int32)) (qsquare : (Nat → Int32)) (qunder : (Nat → Int32)) (psq : Int32) (ppa : Int32) (ppe : Int32) (pwo : Int32) (pkind : (Nat → Int32)) (pwsq : (Nat → Int32)) (pwhr : (Nat → Int32)) (dmost' : Int32) (dcho' : (Nat → Int32)) (dbest' : (Nat → Int32)) (dreach' : (Nat → Int32)) (hF : f_X0_findBest dcho dbest dreach qgone qmet qstill qdone qhour qworn qsquare qunder psq ppa ppe pwo pkind pwsq pwhr = some (dmost', dcho', dbest', dreach')) : CV l D cI cC cM yX0_findBest wsX0_findBest rm_X0_findBest [.ref ad, .ref aq] [(ad, .inr (0, [.ref adc, .ref adb, .ref adr, .int dmost])), (adc, .inl (cI, 5, .inl dcho)), (adb, .inl (cI, 5, .inl dbest)), (adr, .inl (cI, 6, .inl dreach)), (aq, .inr (1, [.ref ap, .int qgone, .int qmet, .int qstill, .int qdone, .ref aqh, .ref aqw, .ref aqs, .ref aqu])), (aqh, .inl (cI, 6, .inl qhour)), (aqw, .inl (cI, 6, .inl qworn)), (aqs, .inl (cI, 5, .inl qsquare)), (aqu, .inl (cI, 5, .inl qunder)), (ap, .inr (2, [.int psq, .int ppa, .int ppe, .int pwo, .ref apk, .ref apq, .ref apr])), (apk, .inl (cI, 6, .inl pkind)), (apq, .inl (cI, 6, .inl pwsq)), (apr, .inl (cI, 6, .inl pwhr))] [(ad, .inr (0, [.ref adc, .ref adb, .ref adr, .int dmost'])), (adc, .inl (cI, 5, .inl dcho')), (adb, .inl (cI, 5, .inl dbest')), (adr, .inl (cI, 6, .inl dreach')), (aq, .inr (1, [.ref ap, .int qgone, .int qmet, .int qstill, .int qdone, .ref aqh, .ref aqw, .ref aqs, .ref aqu])), (aqh, .inl (cI, 6, .inl qhour)), (aqw, .inl (cI, 6, .inl qworn)), (aqs, .inl (cI, 5, .inl qsquare)), (aqu, .inl (cI, 5, .inl qunder)), (ap, .inr (2, [.int psq, .int ppa, .int ppe, .int pwo, .ref apk, .ref apq, .ref apr])), (apk, .inl (cI, 6, .inl pkind)), (apq, .inl (cI, 6, .inl pwsq)), (apr, .inl (cI, 6, .inl pwhr))] := by
  refine CV.of (cc := cX0_findBest) (nL := 3) (ret := none) (by decide) rfl (Nat.le_of_ble_eq_true rfl) ?_
  intro p e s m args below meth c A hC hP hD hS ls hl
  obtain ⟨hx, hb, hml, hown, hts, hr, hlk, hG, hA⟩ := id hC
  have hown : s.vm.findClass RX0 = some m.cls := hown
  have hK := hG.1
  have hl : lv_has ls 3 [(0, .ref ad), (1, .ref aq)] := hl
  have k_f21 := hts (.fieldLink RX0 21 "ParasolHours$Deal" "most" "I") (List.mem_of_getElem? (i := 1) rfl)
  have k_f18 := hts (.fieldLink RX0 18 "ParasolHours$Deal" "reach" "[I") (List.mem_of_getElem? (i := 2) rfl)
  have k_f25 := hts (.fieldLink RX0 25 "ParasolHours$Moment" "plan" "LParasolHours$Plan;") (List.mem_of_getElem? (i := 3) rfl)
  have k_f31 := hts (.fieldLink RX0 31 "ParasolHours$Plan" "persons" "I") (List.mem_of_getElem? (i := 4) rfl)
  have k_st_put := hts (.static yX7_put) (List.mem_of_getElem? (i := 5) rfl)
  have k_in_X7 := hts (.initialized RX7) (List.mem_of_getElem? (i := 6) rfl)
  have k_st_at := hts (.static yX7_at) (List.mem_of_getElem? (i := 8) rfl)
  have iX0 : ∀ w ∈ wsX00, w ∈ wsX0_findBest := by decide +kernel
  have iX1 : ∀ w ∈ wsX10, w ∈ wsX0_findBest := by decide +kernel
  have iX2 : ∀ w ∈ wsX20, w ∈ wsX0_findBest := by decide +kernel
  obtain ⟨Q, hQ⟩ : ∃ Q, Q = MQ below (QV D [(ad, .inr (0, [.ref adc, .ref adb, .ref adr, .int dmost'])), (adc, .inl (cI, 5, .inl dcho')), (adb, .inl (cI, 5, .inl dbest')), (adr, .inl (cI, 6, .inl dreach')), (aq, .inr (1, [.ref ap, .int qgone, .int qmet, .int qstill, .int qdone, .ref aqh, .ref aqw, .ref aqs, .ref aqu])), (aqh, .inl (cI, 6, .inl qhour)), (aqw, .inl (cI, 6, .inl qworn)), (aqs, .inl (cI, 5, .inl qsquare)), (aqu, .inl (cI, 5, .inl qunder)), (ap, .inr (2, [.int psq, .int ppa, .int ppe, .int pwo, .ref apk, .ref apq, .ref apr])), (apk, .inl (cI, 6, .inl pkind)), (apq, .inl (cI, 6, .inl pwsq)), (apr, .inl (cI, 6, .inl pwhr))] A) args s 0 0 A := ⟨_, rfl⟩
  rw [← hQ]
  unfold f_X0_findBest at hF
  refine lv_aload_n hx hb dX0_findBest_0 rfl (lv_at hl 0 rfl) ?_
  refine lv_iconst (v := (-1 : Int32)) hx hb dX0_findBest_1 (by decide) ?_
  refine va_put (D := D) (ci := 0) (v := .int (-1 : Int32)) (ty := .int) (C := RX0) (T := TX0) (N := 4) hx hb hts iX0 tyX0 tyX0_ok nmX0 hown hK hP hD hS 0 rfl rfl 3 (by decide) k_f21 (fun _ h9 => h9) rfl (by decide +kernel) rfl rfl (Nat.le_of_ble_eq_true rfl) dX0_findBest_2 (fun H locs hP hD hS => ?_)
  have hP : va_P D vwCl [(ad, .inr (0, [.ref adc, .ref adb, .ref adr, .int (-1 : Int32)])), (adc, .inl (cI, 5, .inl dcho)), (adb, .inl (cI, 5, .inl dbest)), (adr, .inl (cI, 6, .inl dreach)), (aq, .inr (1, [.ref ap, .int qgone, .int qmet, .int qstill, .int qdone, .ref aqh, .ref aqw, .ref aqs, .ref aqu])), (aqh, .inl (cI, 6, .inl qhour)), (aqw, .inl (cI, 6, .inl qworn)), (aqs, .inl (cI, 5, .inl qsquare)), (aqu, .inl (cI, 5, .inl qunder)), (ap, .inr (2, [.int psq, .int ppa, .int ppe, .int pwo, .ref apk, .ref apq, .ref apr])), (apk, .inl (cI, 6, .inl pkind)), (apq, .inl (cI, 6, .inl pwsq)), (apr, .inl (cI, 6, .inl pwhr))] H := hP
  have hD : va_D A [(ad, .inr (0, [.ref adc, .ref adb, .ref adr, .int (-1 : Int32)])), (adc, .inl (cI, 5, .inl dcho)), (adb, .inl (cI, 5, .inl dbest)), (adr, .inl (cI, 6, .inl dreach)), (aq, .inr (1, [.ref ap, .int qgone, .int qmet, .int qstill, .int qdone, .ref aqh, .ref aqw, .ref aqs, .ref aqu])), (aqh, .inl (cI, 6, .inl qhour)), (aqw, .inl (cI, 6, .inl qworn)), (aqs, .inl (cI, 5, .inl qsquare)), (aqu, .inl (cI, 5, .inl qunder)), (ap, .inr (2, [.int psq, .int ppa, .int ppe, .int pwo, .ref apk, .ref apq, .ref apr])), (apk, .inl (cI, 6, .inl pkind)), (apq, .inl (cI, 6, .inl pwsq)), (apr, .inl (cI, 6, .inl pwhr))] := hD
  refine lv_aload_n hx hb dX0_findBest_5 rfl (lv_at hl 0 rfl) ?_
  refine va_get (D := D) (ci := 0) (v := .ref adr) (C := RX0) (T := TX0) (N := 4) hx hb hts iX0 hown hK hP 0 rfl rfl 2 (by decide) k_f18 (fun _ h9 => h9) rfl dX0_findBest_6 ?_
  refine lv_aload_n hx hb dX0_findBest_9 rfl (lv_at hl 1 rfl) ?_
  refine va_get (D := D) (ci := 1) (v := .ref ap) (C := RX1) (T := TX1) (N := 9) hx hb hts iX1 hown hK hP 4 rfl rfl 0 (by decide) k_f25 (fun _ h9 => h9) rfl dX0_findBest_10 ?_
  refine va_get (D := D) (ci := 2) (v := .int ppe) (C := RX2) (T := TX2) (N := 7) hx hb hts iX2 hown hK hP 9 rfl rfl 2 (by decide) k_f31 (fun _ h9 => h9) rfl dX0_findBest_13 ?_
  refine lv_iconst (v := (0 : Int32)) hx hb dX0_findBest_16 (by decide) ?_
  obtain ⟨f_1, hb2, hF⟩ := op_bind hF
  refine xNv (As := [.ref adr, .int ppe, .int (0 : Int32)]) (rest := []) hC hP hD hS [3] (c_X7_put l D cI cC cM adr 6 dreach ppe (0 : Int32) f_1 hb2) ⟨va_cnB 3 hts gX0_findBest_X7_put_n36 rfl rfl rfl (hG.nw 18 rfl) k_in_X7 pd_X7_put ⟨Nat.le_of_ble_eq_true rfl, Nat.le_of_ble_eq_true rfl⟩, k_st_put, trivial⟩ rfl rfl rfl rfl hl.1 rfl (Nat.le_of_ble_eq_true rfl) dX0_findBest_17 ⟨Nat.zero_le _, Nat.zero_le _⟩ (fun H locs hP hD hS => ?_)
  have hP : va_P D vwCl [(ad, .inr (0, [.ref adc, .ref adb, .ref adr, .int (-1 : Int32)])), (adc, .inl (cI, 5, .inl dcho)), (adb, .inl (cI, 5, .inl dbest)), (adr, .inl (cI, 6, .inl f_1)), (aq, .inr (1, [.ref ap, .int qgone, .int qmet, .int qstill, .int qdone, .ref aqh, .ref aqw, .ref aqs, .ref aqu])), (aqh, .inl (cI, 6, .inl qhour)), (aqw, .inl (cI, 6, .inl qworn)), (aqs, .inl (cI, 5, .inl qsquare)), (aqu, .inl (cI, 5, .inl qunder)), (ap, .inr (2, [.int psq, .int ppa, .int ppe, .int pwo, .ref apk, .ref apq, .ref apr])), (apk, .inl (cI, 6, .inl pkind)), (apq, .inl (cI, 6, .inl pwsq)), (apr, .inl (cI, 6, .inl pwhr))] H := hP
  have hD : va_D A [(ad, .inr (0, [.ref adc, .ref adb, .ref adr, .int (-1 : Int32)])), (adc, .inl (cI, 5, .inl dcho)), (adb, .inl (cI, 5, .inl dbest)), (adr, .inl (cI, 6, .inl f_1)), (aq, .inr (1, [.ref ap, .int qgone, .int qmet, .int qstill, .int qdone, .ref aqh, .ref aqw, .ref aqs, .ref aqu])), (aqh, .inl (cI, 6, .inl qhour)), (aqw, .inl (cI, 6, .inl qworn)), (aqs, .inl (cI, 5, .inl qsquare)), (aqu, .inl (cI, 5, .inl qunder)), (ap, .inr (2, [.int psq, .int ppa, .int ppe, .int pwo, .ref apk, .ref apq, .ref apr])), (apk, .inl (cI, 6, .inl pkind)), (apq, .inl (cI, 6, .inl pwsq)), (apr, .inl (cI, 6, .inl pwhr))] := hD
  refine lv_aload_n hx hb dX0_findBest_20 rfl (lv_at hl 1 rfl) ?_
  refine va_get (D := D) (ci := 1) (v := .ref ap) (C := RX1) (T := TX1) (N := 9) hx hb hts iX1 hown hK hP 4 rfl rfl 0 (by decide) k_f25 (fun _ h9 => h9) rfl dX0_findBest_21 ?_
  refine va_get (D := D) (ci := 2) (v := .int ppe) (C := RX2) (T := TX2) (N := 7) hx hb hts iX2 hown hK hP 9 rfl rfl 2 (by decide) k_f31 (fun _ h9 => h9) rfl dX0_findBest_24 ?_
  refine lv_iconst (v := (1 : Int32)) hx hb dX0_findBest_27 (by decide) ?_
  refine lv_isub hx hb dX0_findBest_28 ?_
  refine lv_istore_n (lv' := [(2, .int (ppe - (1 : Int32))), (0, .ref ad), (1, .ref aq)]) hx hb dX0_findBest_29 rfl hl (by decide) rfl (fun ls hl => ?_)
  have hL30 : ∀ (k30 : Int32 → (Nat → Int32) → Option (Int32 × (Nat → Int32) × (Nat → Int32) × (Nat → Int32))), (∀ (v3 : Int32) (dreach_4 : (Nat → Int32)) (H : Heap) (locs : List Loc), va_P D vwCl [(ad, .inr (0, [.ref adc, .ref adb, .ref adr, .int (-1 : Int32)])), (adc, .inl (cI, 5, .inl dcho)), (adb, .inl (cI, 5, .inl dbest)), (adr, .inl (cI, 6, .inl dreach_4)), (aq, .inr (1, [.ref ap, .int qgone, .int qmet, .int qstill, .int qdone, .ref aqh, .ref aqw, .ref aqs, .ref aqu])), (aqh, .inl (cI, 6, .inl qhour)), (aqw, .inl (cI, 6, .inl qworn)), (aqs, .inl (cI, 5, .inl qsquare)), (aqu, .inl (cI, 5, .inl qunder)), (ap, .inr (2, [.int psq, .int ppa, .int ppe, .int pwo, .ref apk, .ref apq, .ref apr])), (apk, .inl (cI, 6, .inl pkind)), (apq, .inl (cI, 6, .inl pwsq)), (apr, .inl (cI, 6, .inl pwhr))] H → va_D A [(ad, .inr (0, [.ref adc, .ref adb, .ref adr, .int (-1 : Int32)])), (adc, .inl (cI, 5, .inl dcho)), (adb, .inl (cI, 5, .inl dbest)), (adr, .inl (cI, 6, .inl dreach_4)), (aq, .inr (1, [.ref ap, .int qgone, .int qmet, .int qstill, .int qdone, .ref aqh, .ref aqw, .ref aqs, .ref aqu])), (aqh, .inl (cI, 6, .inl qhour)), (aqw, .inl (cI, 6, .inl qworn)), (aqs, .inl (cI, 5, .inl qsquare)), (aqu, .inl (cI, 5, .inl qunder)), (ap, .inr (2, [.int psq, .int ppa, .int ppe, .int pwo, .ref apk, .ref apq, .ref apr])), (apk, .inl (cI, 6, .inl pkind)), (apq, .inl (cI, 6, .inl pwsq)), (apr, .inl (cI, 6, .inl pwhr))] → va_S A s.heap H locs → ∀ ls : Array Slot, lv_has ls 3 [(0, .ref ad), (1, .ref aq)] → k30 v3 dreach_4 = some (dmost', dcho', dbest', dreach') → W p l e rm_X0_findBest s m args below meth c H locs 0 0 Q (F0 m 64 ls [])) → ∀ (nf30 : Nat) (v3 : Int32) (dreach_4 : (Nat → Int32)) (H : Heap) (locs : List Loc), va_P D vwCl [(ad, .inr (0, [.ref adc, .ref adb, .ref adr, .int (-1 : Int32)])), (adc, .inl (cI, 5, .inl dcho)), (adb, .inl (cI, 5, .inl dbest)), (adr, .inl (cI, 6, .inl dreach_4)), (aq, .inr (1, [.ref ap, .int qgone, .int qmet, .int qstill, .int qdone, .ref aqh, .ref aqw, .ref aqs, .ref aqu])), (aqh, .inl (cI, 6, .inl qhour)), (aqw, .inl (cI, 6, .inl qworn)), (aqs, .inl (cI, 5, .inl qsquare)), (aqu, .inl (cI, 5, .inl qunder)), (ap, .inr (2, [.int psq, .int ppa, .int ppe, .int pwo, .ref apk, .ref apq, .ref apr])), (apk, .inl (cI, 6, .inl pkind)), (apq, .inl (cI, 6, .inl pwsq)), (apr, .inl (cI, 6, .inl pwhr))] H → va_D A [(ad, .inr (0, [.ref adc, .ref adb, .ref adr, .int (-1 : Int32)])), (adc, .inl (cI, 5, .inl dcho)), (adb, .inl (cI, 5, .inl dbest)), (adr, .inl (cI, 6, .inl dreach_4)), (aq, .inr (1, [.ref ap, .int qgone, .int qmet, .int qstill, .int qdone, .ref aqh, .ref aqw, .ref aqs, .ref aqu])), (aqh, .inl (cI, 6, .inl qhour)), (aqw, .inl (cI, 6, .inl qworn)), (aqs, .inl (cI, 5, .inl qsquare)), (aqu, .inl (cI, 5, .inl qunder)), (ap, .inr (2, [.int psq, .int ppa, .int ppe, .int pwo, .ref apk, .ref apq, .ref apr])), (apk, .inl (cI, 6, .inl pkind)), (apq, .inl (cI, 6, .inl pwsq)), (apr, .inl (cI, 6, .inl pwhr))] → va_S A s.heap H locs → ∀ ls : Array Slot, lv_has ls 3 [(2, .int v3), (0, .ref ad), (1, .ref aq)] → f_X0_findBest_L30 qstill qdone qhour qworn qsquare ppa pwo pwsq pwhr k30 nf30 v3 dreach_4 = some (dmost', dcho', dbest', dreach') → W p l e rm_X0_findBest s m args below meth c H locs 0 0 Q (F0 m 30 ls []) := by
    intro k30 hk30 nf30
    induction nf30 with
    | zero =>
      intro v3 dreach_4 H locs hP hD hS ls hl hF
      rw [f_X0_findBest_L30_0] at hF
      cases hF
    | succ nf30 ih30 =>
      intro v3 dreach_4 H locs hP hD hS ls hl hF
      rw [f_X0_findBest_L30_s] at hF
      refine lv_iload_n hx hb dX0_findBest_30 rfl (lv_at hl 0 rfl) ?_
      refine lv_if_lt (tgt := 64) hx hb dX0_findBest_31 (by decide) (fun c5 => ?_) (fun c5 => ?_)
      · have hF := op_pos c5 hF
        exact hk30 v3 dreach_4 _ _ hP hD hS _ (lv_sub hl [1, 2] rfl) hF
      · have hF := op_neg c5 hF
        refine lv_aload_n hx hb dX0_findBest_34 rfl (lv_at hl 1 rfl) ?_
        refine va_get (D := D) (ci := 0) (v := .ref adr) (C := RX0) (T := TX0) (N := 4) hx hb hts iX0 hown hK hP 0 rfl rfl 2 (by decide) k_f18 (fun _ h9 => h9) rfl dX0_findBest_35 ?_
        refine lv_iload_n hx hb dX0_findBest_38 rfl (lv_at hl 0 rfl) ?_
        refine lv_aload_n hx hb dX0_findBest_39 rfl (lv_at hl 1 rfl) ?_
        refine va_get (D := D) (ci := 0) (v := .ref adr) (C := RX0) (T := TX0) (N := 4) hx hb hts iX0 hown hK hP 0 rfl rfl 2 (by decide) k_f18 (fun _ h9 => h9) rfl dX0_findBest_40 ?_
        refine lv_iload_n hx hb dX0_findBest_43 rfl (lv_at hl 0 rfl) ?_
        refine lv_iconst (v := (1 : Int32)) hx hb dX0_findBest_44 (by decide) ?_
        refine lv_iadd hx hb dX0_findBest_45 ?_
        obtain ⟨r6, hb7, hF⟩ := op_bind hF
        refine xNr (As := [.ref adr, .int (v3 + (1 : Int32))]) (rest := [.int v3, .ref adr]) hC hP hD hS [3] (c_X7_at l D cI cC cM adr 6 dreach_4 (v3 + (1 : Int32)) r6 hb7) ⟨va_cnB 2 hts gX0_findBest_X7_at_n40 rfl rfl rfl (hG.nw 19 rfl) k_in_X7 pd_X7_at ⟨Nat.le_of_ble_eq_true rfl, Nat.le_of_ble_eq_true rfl⟩, k_st_at, trivial⟩ rfl rfl rfl hl.1 rfl (Nat.le_of_ble_eq_true rfl) dX0_findBest_46 ⟨Nat.zero_le _, Nat.zero_le _⟩ (fun H locs hP hS => ?_)
        refine lv_aload_n hx hb dX0_findBest_49 rfl (lv_at hl 2 rfl) ?_
        refine lv_iload_n hx hb dX0_findBest_50 rfl (lv_at hl 0 rfl) ?_
        obtain ⟨r8, hb9, hF⟩ := op_bind hF
        refine xSr (As := [.ref aq, .int v3]) (rest := [.int r6, .int v3, .ref adr]) hC hP hD hS [4, 5, 6, 7, 8, 9, 10, 11, 12] (c_X0_reachOf l D cI cC cM aq aqh aqw aqs aqu ap apk apq apr qgone qmet qstill qdone qhour qworn qsquare qunder psq ppa ppe pwo pkind pwsq pwhr v3 r8 hb9) (va_cwS 2 hts gX0_findBest_X0_reachOf rfl rfl rfl pd_X0_reachOf ⟨Nat.le_of_ble_eq_true rfl, Nat.le_of_ble_eq_true rfl⟩) rfl rfl rfl hl.1 rfl (Nat.le_of_ble_eq_true rfl) dX0_findBest_51 ⟨Nat.zero_le _, Nat.zero_le _⟩ (fun H locs hP hS => ?_)
        refine lv_ior hx hb dX0_findBest_54 ?_
        obtain ⟨f_10, hb11, hF⟩ := op_bind hF
        refine xNv (As := [.ref adr, .int v3, .int (r6 ||| r8)]) (rest := []) hC hP hD hS [3] (c_X7_put l D cI cC cM adr 6 dreach_4 v3 (r6 ||| r8) f_10 hb11) ⟨va_cnB 3 hts gX0_findBest_X7_put_n36 rfl rfl rfl (hG.nw 18 rfl) k_in_X7 pd_X7_put ⟨Nat.le_of_ble_eq_true rfl, Nat.le_of_ble_eq_true rfl⟩, k_st_put, trivial⟩ rfl rfl rfl rfl hl.1 rfl (Nat.le_of_ble_eq_true rfl) dX0_findBest_55 ⟨Nat.zero_le _, Nat.zero_le _⟩ (fun H locs hP hD hS => ?_)
        have hP : va_P D vwCl [(ad, .inr (0, [.ref adc, .ref adb, .ref adr, .int (-1 : Int32)])), (adc, .inl (cI, 5, .inl dcho)), (adb, .inl (cI, 5, .inl dbest)), (adr, .inl (cI, 6, .inl f_10)), (aq, .inr (1, [.ref ap, .int qgone, .int qmet, .int qstill, .int qdone, .ref aqh, .ref aqw, .ref aqs, .ref aqu])), (aqh, .inl (cI, 6, .inl qhour)), (aqw, .inl (cI, 6, .inl qworn)), (aqs, .inl (cI, 5, .inl qsquare)), (aqu, .inl (cI, 5, .inl qunder)), (ap, .inr (2, [.int psq, .int ppa, .int ppe, .int pwo, .ref apk, .ref apq, .ref apr])), (apk, .inl (cI, 6, .inl pkind)), (apq, .inl (cI, 6, .inl pwsq)), (apr, .inl (cI, 6, .inl pwhr))] H := hP
        have hD : va_D A [(ad, .inr (0, [.ref adc, .ref adb, .ref adr, .int (-1 : Int32)])), (adc, .inl (cI, 5, .inl dcho)), (adb, .inl (cI, 5, .inl dbest)), (adr, .inl (cI, 6, .inl f_10)), (aq, .inr (1, [.ref ap, .int qgone, .int qmet, .int qstill, .int qdone, .ref aqh, .ref aqw, .ref aqs, .ref aqu])), (aqh, .inl (cI, 6, .inl qhour)), (aqw, .inl (cI, 6, .inl qworn)), (aqs, .inl (cI, 5, .inl qsquare)), (aqu, .inl (cI, 5, .inl qunder)), (ap, .inr (2, [.int psq, .int ppa, .int ppe, .int pwo, .ref apk, .ref apq, .ref apr])), (apk, .inl (cI, 6, .inl pkind)), (apq, .inl (cI, 6, .inl pwsq)), (apr, .inl (cI, 6, .inl pwhr))] := hD
        refine lv_iinc (v := (v3 + (-1 : Int32))) (lv' := [(2, .int (v3 + (-1 : Int32))), (0, .ref ad), (1, .ref aq)]) hx hb dX0_findBest_58 hl (k := 0) rfl (by first | rfl | decide) (by decide) rfl (fun ls hl => ?_)
        refine lv_goto (tgt := 30) hx hb dX0_findBest_61 (by decide) ?_
        exact ih30 (v3 + (-1 : Int32)) f_10 _ _ hP hD hS _ (lv_sub hl [0, 1, 2] rfl) hF
  refine hL30 _ (fun v3 dreach_4 H locs hP hD hS ls hl hF => ?_) 20000 (ppe - (1 : Int32)) f_1 _ _ hP hD hS _ (lv_sub hl [0, 1, 2] rfl) hF
  refine lv_aload_n hx hb dX0_findBest_64 rfl (lv_at hl 0 rfl) ?_
  refine lv_aload_n hx hb dX0_findBest_65 rfl (lv_at hl 1 rfl) ?_
  refine lv_iconst (v := (0 : Int32)) hx hb dX0_findBest_66 (by decide) ?_
  refine lv_iconst (v := (0 : Int32)) hx hb dX0_findBest_67 (by decide) ?_
  refine lv_iconst (v := (0 : Int32)) hx hb dX0_findBest_68 (by decide) ?_
  obtain ⟨⟨dmost_12, dcho_13, dbest_14⟩, hb15, hF⟩ := op_bind hF
  refine xSv (As := [.ref ad, .ref aq, .int (0 : Int32), .int (0 : Int32), .int (0 : Int32)]) (rest := []) hC hP hD hS [0, 1, 2, 3, 4, 5, 6, 7, 8, 9, 10, 11, 12] (c_X0_choose 7 l D cI cC cM ad adc adb adr aq aqh aqw aqs aqu ap apk apq apr (-1 : Int32) dcho dbest dreach_4 qgone qmet qstill qdone qhour qworn qsquare qunder psq ppa ppe pwo pkind pwsq pwhr (0 : Int32) (0 : Int32) (0 : Int32) dmost_12 dcho_13 dbest_14 hb15) (va_cwS 5 hts gX0_findBest_X0_choose rfl rfl rfl pd_X0_choose ⟨Nat.le_of_ble_eq_true rfl, Nat.le_of_ble_eq_true rfl⟩) rfl rfl rfl rfl hl.1 rfl (Nat.le_of_ble_eq_true rfl) dX0_findBest_69 ⟨Nat.zero_le _, Nat.zero_le _⟩ (fun H locs hP hD hS => ?_)
  have hP : va_P D vwCl [(ad, .inr (0, [.ref adc, .ref adb, .ref adr, .int dmost_12])), (adc, .inl (cI, 5, .inl dcho_13)), (adb, .inl (cI, 5, .inl dbest_14)), (adr, .inl (cI, 6, .inl dreach_4)), (aq, .inr (1, [.ref ap, .int qgone, .int qmet, .int qstill, .int qdone, .ref aqh, .ref aqw, .ref aqs, .ref aqu])), (aqh, .inl (cI, 6, .inl qhour)), (aqw, .inl (cI, 6, .inl qworn)), (aqs, .inl (cI, 5, .inl qsquare)), (aqu, .inl (cI, 5, .inl qunder)), (ap, .inr (2, [.int psq, .int ppa, .int ppe, .int pwo, .ref apk, .ref apq, .ref apr])), (apk, .inl (cI, 6, .inl pkind)), (apq, .inl (cI, 6, .inl pwsq)), (apr, .inl (cI, 6, .inl pwhr))] H := hP
  have hD : va_D A [(ad, .inr (0, [.ref adc, .ref adb, .ref adr, .int dmost_12])), (adc, .inl (cI, 5, .inl dcho_13)), (adb, .inl (cI, 5, .inl dbest_14)), (adr, .inl (cI, 6, .inl dreach_4)), (aq, .inr (1, [.ref ap, .int qgone, .int qmet, .int qstill, .int qdone, .ref aqh, .ref aqw, .ref aqs, .ref aqu])), (aqh, .inl (cI, 6, .inl qhour)), (aqw, .inl (cI, 6, .inl qworn)), (aqs, .inl (cI, 5, .inl qsquare)), (aqu, .inl (cI, 5, .inl qunder)), (ap, .inr (2, [.int psq, .int ppa, .int ppe, .int pwo, .ref apk, .ref apq, .ref apr])), (apk, .inl (cI, 6, .inl pkind)), (apq, .inl (cI, 6, .inl pwsq)), (apr, .inl (cI, 6, .inl pwhr))] := hD
  cases hF
  rw [hQ]
  exact xrv hC hP hS dX0_findBest_72
