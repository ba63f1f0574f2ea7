def f_X7_flecks_L78 (n : Int32) (k78 : Int32 → Int32 → Int32 → Option Int32) : Nat → Int32 → Int32 → Int32 → Option Int32
  | 0, _, _, _ => none
  | nf78 + 1, v17, v18, v19 => (if n ≤ v19 then (k78 v17 v18 v19) else (if (jrem v17 (2 : Int32)) = 0 then (if (jrem v18 (2 : Int32)) = 0 then (if (jrem (v17 / (2 : Int32)) (5 : Int32)) = 0 then (if (jrem (v18 / (2 : Int32)) (5 : Int32)) = 0 then (f_X7_flecks_L78 n k78 nf78 ((v17 / (2 : Int32)) / (5 : Int32)) ((v18 / (2 : Int32)) / (5 : Int32)) (v19 + (1 : Int32))) else (f_X7_flecks_L78 n k78 nf78 (v17 / (2 : Int32)) (v18 / (2 : Int32)) (v19 + (1 : Int32)))) else (f_X7_flecks_L78 n k78 nf78 (v17 / (2 : Int32)) (v18 / (2 : Int32)) (v19 + (1 : Int32)))) else (if (jrem v17 (5 : Int32)) = 0 then (if (jrem v18 (5 : Int32)) = 0 then (f_X7_flecks_L78 n k78 nf78 (v17 / (5 : Int32)) (v18 / (5 : Int32)) (v19 + (1 : Int32))) else (f_X7_flecks_L78 n k78 nf78 v17 v18 (v19 + (1 : Int32)))) else (f_X7_flecks_L78 n k78 nf78 v17 v18 (v19 + (1 : Int32))))) else (if (jrem v17 (5 : Int32)) = 0 then (if (jrem v18 (5 : Int32)) = 0 then (f_X7_flecks_L78 n k78 nf78 (v17 / (5 : Int32)) (v18 / (5 : Int32)) (v19 + (1 : Int32))) else (f_X7_flecks_L78 n k78 nf78 v17 v18 (v19 + (1 : Int32)))) else (f_X7_flecks_L78 n k78 nf78 v17 v18 (v19 + (1 : Int32))))))
theorem f_X7_flecks_L78_0 (n : Int32) (k78 : Int32 → Int32 → Int32 → Option Int32) (v17 : Int32) (v18 : Int32) (v19 : Int32) : f_X7_flecks_L78 n k78 0 v17 v18 v19 = none := rfl
theorem f_X7_flecks_L78_s (n : Int32) (k78 : Int32 → Int32 → Int32 → Option Int32) (nf78 : Nat) (v17 : Int32) (v18 : Int32) (v19 : Int32) : f_X7_flecks_L78 n k78 (nf78 + 1) v17 v18 v19 = (if n ≤ v19 then (k78 v17 v18 v19) else (if (jrem v17 (2 : Int32)) = 0 then (if (jrem v18 (2 : Int32)) = 0 then (if (jrem (v17 / (2 : Int32)) (5 : Int32)) = 0 then (if (jrem (v18 / (2 : Int32)) (5 : Int32)) = 0 then (f_X7_flecks_L78 n k78 nf78 ((v17 / (2 : Int32)) / (5 : Int32)) ((v18 / (2 : Int32)) / (5 : Int32)) (v19 + (1 : Int32))) else (f_X7_flecks_L78 n k78 nf78 (v17 / (2 : Int32)) (v18 / (2 : Int32)) (v19 + (1 : Int32)))) else (f_X7_flecks_L78 n k78 nf78 (v17 / (2 : Int32)) (v18 / (2 : Int32)) (v19 + (1 : Int32)))) else (if (jrem v17 (5 : Int32)) = 0 then (if (jrem v18 (5 : Int32)) = 0 then (f_X7_flecks_L78 n k78 nf78 (v17 / (5 : Int32)) (v18 / (5 : Int32)) (v19 + (1 : Int32))) else (f_X7_flecks_L78 n k78 nf78 v17 v18 (v19 + (1 : Int32)))) else (f_X7_flecks_L78 n k78 nf78 v17 v18 (v19 + (1 : Int32))))) else (if (jrem v17 (5 : Int32)) = 0 then (if (jrem v18 (5 : Int32)) = 0 then (f_X7_flecks_L78 n k78 nf78 (v17 / (5 : Int32)) (v18 / (5 : Int32)) (v19 + (1 : Int32))) else (f_X7_flecks_L78 n k78 nf78 v17 v18 (v19 + (1 : Int32)))) else (f_X7_flecks_L78 n k78 nf78 v17 v18 (v19 + (1 : Int32)))))) := rfl

def f_X7_flecks (ppa : Int32) (pkind : (Nat → Int32)) (qgone : Int32) (qhour : (Nat → Int32)) (u : Int32) (h : Int32) (n : Int32) (x0 : Int32) (i : Int32) : Option Int32 := (Option.bind (f_X2_hasParasol ppa u) fun r1 => (if r1 = 0 then (some (-1 : Int32)) else (Option.bind (f_X7_isHour h) fun r4 => (if r4 = 0 then (some (-1 : Int32)) else (if n < 0 then (some (-1 : Int32)) else (if (8 : Int32) < n then (some (-1 : Int32)) else (if x0 < 0 then (some (-1 : Int32)) else (if (10 : Int32) < x0 then (some (-1 : Int32)) else (if i < 0 then (some (-1 : Int32)) else (if i ≤ (1 : Int32) then (Option.bind (f_X1_fleckedWays qgone qhour pkind u h n x0) fun r13 => (Option.bind (f_X7_power (10 : Int32) n) fun r15 => (f_X7_flecks_L78 n (fun (v17 : Int32) (v18 : Int32) (v19 : Int32) => (if i = 0 then (some v17) else (some v18))) 20000 r13 r15 (0 : Int32)))) else (some (-1 : Int32))))))))))))

def rm_X7_flecks : Room := { frames := 3, cells := 0, slots := 0, locals := 71 }

theorem pd_X7_flecks : yX7_flecks.cls ≠ "java/lang/invoke/MethodHandle" ∧ yX7_flecks.cls ≠ "java/lang/invoke/VarHandle" ∧ (parseMethodDescriptor yX7_flecks.desc).map (fun d => d.parameters.length) = some 5 := by decide +kernel

set_option maxHeartbeats 4000000 in
set_option maxRecDepth 100000 in
theorem c_X7_flecks (l : Launch) (D : va_G) (cI cC cM : ClassId) (ax ap apk apq apr aq aqh aqw aqs aqu ay ar aj az ak ae ad : Nat) (psq : Int32) (ppa : Int32) (ppe : Int32) (pwo : Int32) (pkind : (Nat → Int32)) (pwsq : (Nat → Int32)) (pwhr : (Nat → Int32)) (qgone : Int32) (qmet : Int32) (qstill : Int32) (qdone : Int32) (qhour : (Nat → Int32)) (qworn : (Nat → Int32)) (qsquare : (Nat → Int32)) (qunder : (Nat → Int32)) (u : Int32) (h : Int32) (n : Int32) (x0 : Int32) (i : Int32) (rr : Int32) (hF : f_X7_flecks ppa pkind qgone qhour u h n x0 i = some rr) : CI l D cI cC cM yX7_flecks wsX7_flecks rm_X7_flecks [.ref ax, .int u, .int h, .int n, .int x0, .int i] [(ax, .inr (7, [.ref ay, .ref ar, .ref ap, .ref aq, .ref aj, .ref az, .ref ak, .ref ae, .ref ad])), (ap, .inr (2, [.int psq, .int ppa, .int ppe, .int pwo, .ref apk, .ref apq, .ref apr])), (apk, .inl (cI, 6, .inl pkind)), (apq, .inl (cI, 6, .inl pwsq)), (apr, .inl (cI, 6, .inl pwhr)), (aq, .inr (1, [.ref ap, .int qgone, .int qmet, .int qstill, .int qdone, .ref aqh, .ref aqw, .ref aqs, .ref aqu])), (aqh, .inl (cI, 6, .inl qhour)), (aqw, .inl (cI, 6, .inl qworn)), (aqs, .inl (cI, 5, .inl qsquare)), (aqu, .inl (cI, 5, .inl qunder))] [(ax, .inr (7, [.ref ay, .ref ar, .ref ap, .ref aq, .ref aj, .ref az, .ref ak, .ref ae, .ref ad])), (ap, .inr (2, [.int psq, .int ppa, .int ppe, .int pwo, .ref apk, .ref apq, .ref apr])), (apk, .inl (cI, 6, .inl pkind)), (apq, .inl (cI, 6, .inl pwsq)), (apr, .inl (cI, 6, .inl pwhr)), (aq, .inr (1, [.ref ap, .int qgone, .int qmet, .int qstill, .int qdone, .ref aqh, .ref aqw, .ref aqs, .ref aqu])), (aqh, .inl (cI, 6, .inl qhour)), (aqw, .inl (cI, 6, .inl qworn)), (aqs, .inl (cI, 5, .inl qsquare)), (aqu, .inl (cI, 5, .inl qunder))] rr := by
  refine CI.of (cc := cX7_flecks) (nL := 9) (ret := (some .int)) (by decide) rfl (Nat.le_of_ble_eq_true rfl) ?_
  intro p e s m args below meth c A hC hP hD hS ls hl
  obtain ⟨hx, hb, hml, hown, hts, hr, hlk, hG, hA⟩ := id hC
  have hown : s.vm.findClass RX7 = some m.cls := hown
  have hK := hG.1
  have hl : lv_has ls 9 [(0, .ref ax), (1, .int u), (2, .int h), (3, .int n), (4, .int x0), (5, .int i)] := hl
  have k_f26 := hts (.fieldLink RX7 26 "ParasolHours" "plan" "LParasolHours$Plan;") (List.mem_of_getElem? (i := 1) rfl)
  have k_f35 := hts (.fieldLink RX7 35 "ParasolHours" "now" "LParasolHours$Moment;") (List.mem_of_getElem? (i := 2) rfl)
  have iX7 : ∀ w ∈ wsX70, w ∈ wsX7_flecks := by decide +kernel
  obtain ⟨Q, hQ⟩ : ∃ Q, Q = MQ below (QI D [(ax, .inr (7, [.ref ay, .ref ar, .ref ap, .ref aq, .ref aj, .ref az, .ref ak, .ref ae, .ref ad])), (ap, .inr (2, [.int psq, .int ppa, .int ppe, .int pwo, .ref apk, .ref apq, .ref apr])), (apk, .inl (cI, 6, .inl pkind)), (apq, .inl (cI, 6, .inl pwsq)), (apr, .inl (cI, 6, .inl pwhr)), (aq, .inr (1, [.ref ap, .int qgone, .int qmet, .int qstill, .int qdone, .ref aqh, .ref aqw, .ref aqs, .ref aqu])), (aqh, .inl (cI, 6, .inl qhour)), (aqw, .inl (cI, 6, .inl qworn)), (aqs, .inl (cI, 5, .inl qsquare)), (aqu, .inl (cI, 5, .inl qunder))] rr A) args s 0 0 A := ⟨_, rfl⟩
  rw [← hQ]
  unfold f_X7_flecks at hF
  refine lv_aload_n hx hb dX7_flecks_0 rfl (lv_at hl 0 rfl) ?_
  refine va_get (D := D) (ci := 7) (v := .ref ap) (C := RX7) (T := TX7) (N := 9) hx hb hts iX7 hown hK hP 0 rfl rfl 2 (by decide) k_f26 (fun _ h9 => h9) rfl dX7_flecks_1 ?_
  refine lv_iload_n hx hb dX7_flecks_4 rfl (lv_at hl 1 rfl) ?_
  obtain ⟨r1, hb2, hF⟩ := op_bind hF
  refine xVr (As := [.int u]) (rest := []) hC hP hD hS [1, 2, 3, 4] (c_X2_hasParasol l D cI cC cM ap apk apq apr psq ppa ppe pwo pkind pwsq pwhr u r1 hb2) (cwV 1 hts gX7_flecks_X2_hasParasol rfl rfl rfl ⟨rfl, pd_X2_hasParasol⟩ ⟨Nat.le_of_ble_eq_true rfl, Nat.le_of_ble_eq_true rfl⟩) rfl rfl 1 2 rfl rfl rfl rfl hl.1 rfl (Nat.le_of_ble_eq_true rfl) dX7_flecks_5 ⟨Nat.zero_le _, Nat.zero_le _⟩ (fun H locs hP hS => ?_)
  refine lv_if_eq (tgt := 51) hx hb dX7_flecks_8 (by decide) (fun c3 => ?_) (fun c3 => ?_)
  · have hF := op_pos c3 hF
    refine lv_iconst (v := (-1 : Int32)) hx hb dX7_flecks_51 (by decide) ?_
    cases hF
    rw [hQ]
    exact xri hC hP hS dX7_flecks_52
  · have hF := op_neg c3 hF
    refine lv_iload_n hx hb dX7_flecks_11 rfl (lv_at hl 2 rfl) ?_
    obtain ⟨r4, hb5, hF⟩ := op_bind hF
    refine xSr (As := [.int h]) (rest := []) hC hP hD hS [] (c_X7_isHour l D cI cC cM h r4 hb5) (va_cwS 1 hts gX7_flecks_X7_isHour rfl rfl rfl pd_X7_isHour ⟨Nat.le_of_ble_eq_true rfl, Nat.le_of_ble_eq_true rfl⟩) rfl rfl rfl hl.1 rfl (Nat.le_of_ble_eq_true rfl) dX7_flecks_12 ⟨Nat.zero_le _, Nat.zero_le _⟩ (fun H locs hP hS => ?_)
    refine lv_if_eq (tgt := 51) hx hb dX7_flecks_15 (by decide) (fun c6 => ?_) (fun c6 => ?_)
    · have hF := op_pos c6 hF
      refine lv_iconst (v := (-1 : Int32)) hx hb dX7_flecks_51 (by decide) ?_
      cases hF
      rw [hQ]
      exact xri hC hP hS dX7_flecks_52
    · have hF := op_neg c6 hF
      refine lv_iload_n hx hb dX7_flecks_18 rfl (lv_at hl 3 rfl) ?_
      refine lv_if_lt (tgt := 51) hx hb dX7_flecks_19 (by decide) (fun c7 => ?_) (fun c7 => ?_)
      · have hF := op_pos c7 hF
        refine lv_iconst (v := (-1 : Int32)) hx hb dX7_flecks_51 (by decide) ?_
        cases hF
        rw [hQ]
        exact xri hC hP hS dX7_flecks_52
      · have hF := op_neg c7 hF
        refine lv_iload_n hx hb dX7_flecks_22 rfl (lv_at hl 3 rfl) ?_
        refine lv_bipush (v := (8 : Int32)) hx hb dX7_flecks_23 (by decide) ?_
        refine lv_icmp_gt (tgt := 51) hx hb dX7_flecks_25 (by decide) (fun c8 => ?_) (fun c8 => ?_)
        · have hF := op_pos c8 hF
          refine lv_iconst (v := (-1 : Int32)) hx hb dX7_flecks_51 (by decide) ?_
          cases hF
          rw [hQ]
          exact xri hC hP hS dX7_flecks_52
        · have hF := op_neg c8 hF
          refine lv_iload hx hb dX7_flecks_28 (lv_at hl 4 rfl) ?_
          refine lv_if_lt (tgt := 51) hx hb dX7_flecks_30 (by decide) (fun c9 => ?_) (fun c9 => ?_)
          · have hF := op_pos c9 hF
            refine lv_iconst (v := (-1 : Int32)) hx hb dX7_flecks_51 (by decide) ?_
            cases hF
            rw [hQ]
            exact xri hC hP hS dX7_flecks_52
          · have hF := op_neg c9 hF
            refine lv_iload hx hb dX7_flecks_33 (lv_at hl 4 rfl) ?_
            refine lv_bipush (v := (10 : Int32)) hx hb dX7_flecks_35 (by decide) ?_
            refine lv_icmp_gt (tgt := 51) hx hb dX7_flecks_37 (by decide) (fun c10 => ?_) (fun c10 => ?_)
            · have hF := op_pos c10 hF
              refine lv_iconst (v := (-1 : Int32)) hx hb dX7_flecks_51 (by decide) ?_
              cases hF
              rw [hQ]
              exact xri hC hP hS dX7_flecks_52
            · have hF := op_neg c10 hF
              refine lv_iload hx hb dX7_flecks_40 (lv_at hl 5 rfl) ?_
              refine lv_if_lt (tgt := 51) hx hb dX7_flecks_42 (by decide) (fun c11 => ?_) (fun c11 => ?_)
              · have hF := op_pos c11 hF
                refine lv_iconst (v := (-1 : Int32)) hx hb dX7_flecks_51 (by decide) ?_
                cases hF
                rw [hQ]
                exact xri hC hP hS dX7_flecks_52
              · have hF := op_neg c11 hF
                refine lv_iload hx hb dX7_flecks_45 (lv_at hl 5 rfl) ?_
                refine lv_iconst (v := (1 : Int32)) hx hb dX7_flecks_47 (by decide) ?_
                refine lv_icmp_le (tgt := 53) hx hb dX7_flecks_48 (by decide) (fun c12 => ?_) (fun c12 => ?_)
                · have hF := op_pos c12 hF
                  refine lv_aload_n hx hb dX7_flecks_53 rfl (lv_at hl 0 rfl) ?_
                  refine va_get (D := D) (ci := 7) (v := .ref aq) (C := RX7) (T := TX7) (N := 9) hx hb hts iX7 hown hK hP 0 rfl rfl 3 (by decide) k_f35 (fun _ h9 => h9) rfl dX7_flecks_54 ?_
                  refine lv_iload_n hx hb dX7_flecks_57 rfl (lv_at hl 1 rfl) ?_
                  refine lv_iload_n hx hb dX7_flecks_58 rfl (lv_at hl 2 rfl) ?_
                  refine lv_iload_n hx hb dX7_flecks_59 rfl (lv_at hl 3 rfl) ?_
                  refine lv_iload hx hb dX7_flecks_60 (lv_at hl 4 rfl) ?_
                  obtain ⟨r13, hb14, hF⟩ := op_bind hF
                  refine xVr (As := [.int u, .int h, .int n, .int x0]) (rest := []) hC hP hD hS [5, 6, 7, 8, 9, 1, 2, 3, 4] (c_X1_fleckedWays l D cI cC cM aq aqh aqw aqs aqu ap apk apq apr qgone qmet qstill qdone qhour qworn qsquare qunder psq ppa ppe pwo pkind pwsq pwhr u h n x0 r13 hb14) (cwV 4 hts gX7_flecks_X1_fleckedWays rfl rfl rfl ⟨rfl, pd_X1_fleckedWays⟩ ⟨Nat.le_of_ble_eq_true rfl, Nat.le_of_ble_eq_true rfl⟩) rfl rfl 5 1 rfl rfl rfl rfl hl.1 rfl (Nat.le_of_ble_eq_true rfl) dX7_flecks_62 ⟨Nat.zero_le _, Nat.zero_le _⟩ (fun H locs hP hS => ?_)
                  refine lv_istore (lv' := [(6, .int r13), (0, .ref ax), (1, .int u), (2, .int h), (3, .int n), (4, .int x0), (5, .int i)]) hx hb dX7_flecks_65 hl (by decide) rfl (fun ls hl => ?_)
                  refine lv_bipush (v := (10 : Int32)) hx hb dX7_flecks_67 (by decide) ?_
                  refine lv_iload_n hx hb dX7_flecks_69 rfl (lv_at hl 4 rfl) ?_
                  obtain ⟨r15, hb16, hF⟩ := op_bind hF
                  refine xSr (As := [.int (10 : Int32), .int n]) (rest := []) hC hP hD hS [] (c_X7_power l D cI cC cM (10 : Int32) n r15 hb16) (va_cwS 2 hts gX7_flecks_X7_power rfl rfl rfl pd_X7_power ⟨Nat.le_of_ble_eq_true rfl, Nat.le_of_ble_eq_true rfl⟩) rfl rfl rfl hl.1 rfl (Nat.le_of_ble_eq_true rfl) dX7_flecks_70 ⟨Nat.zero_le _, Nat.zero_le _⟩ (fun H locs hP hS => ?_)
                  refine lv_istore (lv' := [(7, .int r15), (6, .int r13), (0, .ref ax), (1, .int u), (2, .int h), (3, .int n), (4, .int x0), (5, .int i)]) hx hb dX7_flecks_73 hl (by decide) rfl (fun ls hl => ?_)
                  refine lv_iconst (v := (0 : Int32)) hx hb dX7_flecks_75 (by decide) ?_
                  refine lv_istore (lv' := [(8, .int (0 : Int32)), (7, .int r15), (6, .int r13), (0, .ref ax), (1, .int u), (2, .int h), (3, .int n), (4, .int x0), (5, .int i)]) hx hb dX7_flecks_76 hl (by decide) rfl (fun ls hl => ?_)
                  have hL78 : ∀ (k78 : Int32 → Int32 → Int32 → Option Int32), (∀ (v17 : Int32) (v18 : Int32) (v19 : Int32) (H : Heap) (locs : List Loc), va_P D vwCl [(ax, .inr (7, [.ref ay, .ref ar, .ref ap, .ref aq, .ref aj, .ref az, .ref ak, .ref ae, .ref ad])), (ap, .inr (2, [.int psq, .int ppa, .int ppe, .int pwo, .ref apk, .ref apq, .ref apr])), (apk, .inl (cI, 6, .inl pkind)), (apq, .inl (cI, 6, .inl pwsq)), (apr, .inl (cI, 6, .inl pwhr)), (aq, .inr (1, [.ref ap, .int qgone, .int qmet, .int qstill, .int qdone, .ref aqh, .ref aqw, .ref aqs, .ref aqu])), (aqh, .inl (cI, 6, .inl qhour)), (aqw, .inl (cI, 6, .inl qworn)), (aqs, .inl (cI, 5, .inl qsquare)), (aqu, .inl (cI, 5, .inl qunder))] H → va_D A [(ax, .inr (7, [.ref ay, .ref ar, .ref ap, .ref aq, .ref aj, .ref az, .ref ak, .ref ae, .ref ad])), (ap, .inr (2, [.int psq, .int ppa, .int ppe, .int pwo, .ref apk, .ref apq, .ref apr])), (apk, .inl (cI, 6, .inl pkind)), (apq, .inl (cI, 6, .inl pwsq)), (apr, .inl (cI, 6, .inl pwhr)), (aq, .inr (1, [.ref ap, .int qgone, .int qmet, .int qstill, .int qdone, .ref aqh, .ref aqw, .ref aqs, .ref aqu])), (aqh, .inl (cI, 6, .inl qhour)), (aqw, .inl (cI, 6, .inl qworn)), (aqs, .inl (cI, 5, .inl qsquare)), (aqu, .inl (cI, 5, .inl qunder))] → va_S A s.heap H locs → ∀ ls : Array Slot, lv_has ls 9 [(7, .int v18), (6, .int v17), (5, .int i)] → k78 v17 v18 v19 = some rr → W p l e rm_X7_flecks s m args below meth c H locs 0 0 Q (F0 m 142 ls [])) → ∀ (nf78 : Nat) (v17 : Int32) (v18 : Int32) (v19 : Int32) (H : Heap) (locs : List Loc), va_P D vwCl [(ax, .inr (7, [.ref ay, .ref ar, .ref ap, .ref aq, .ref aj, .ref az, .ref ak, .ref ae, .ref ad])), (ap, .inr (2, [.int psq, .int ppa, .int ppe, .int pwo, .ref apk, .ref apq, .ref apr])), (apk, .inl (cI, 6, .inl pkind)), (apq, .inl (cI, 6, .inl pwsq)), (apr, .inl (cI, 6, .inl pwhr)), (aq, .inr (1, [.ref ap, .int qgone, .int qmet, .int qstill, .int qdone, .ref aqh, .ref aqw, .ref aqs, .ref aqu])), (aqh, .inl (cI, 6, .inl qhour)), (aqw, .inl (cI, 6, .inl qworn)), (aqs, .inl (cI, 5, .inl qsquare)), (aqu, .inl (cI, 5, .inl qunder))] H → va_D A [(ax, .inr (7, [.ref ay, .ref ar, .ref ap, .ref aq, .ref aj, .ref az, .ref ak, .ref ae, .ref ad])), (ap, .inr (2, [.int psq, .int ppa, .int ppe, .int pwo, .ref apk, .ref apq, .ref apr])), (apk, .inl (cI, 6, .inl pkind)), (apq, .inl (cI, 6, .inl pwsq)), (apr, .inl (cI, 6, .inl pwhr)), (aq, .inr (1, [.ref ap, .int qgone, .int qmet, .int qstill, .int qdone, .ref aqh, .ref aqw, .ref aqs, .ref aqu])), (aqh, .inl (cI, 6, .inl qhour)), (aqw, .inl (cI, 6, .inl qworn)), (aqs, .inl (cI, 5, .inl qsquare)), (aqu, .inl (cI, 5, .inl qunder))] → va_S A s.heap H locs → ∀ ls : Array Slot, lv_has ls 9 [(8, .int v19), (7, .int v18), (6, .int v17), (3, .int n), (5, .int i)] → f_X7_flecks_L78 n k78 nf78 v17 v18 v19 = some rr → W p l e rm_X7_flecks s m args below meth c H locs 0 0 Q (F0 m 78 ls []) := by
                    intro k78 hk78 nf78
                    induction nf78 with
                    | zero =>
                      intro v17 v18 v19 H locs hP hD hS ls hl hF
                      rw [f_X7_flecks_L78_0] at hF
                      cases hF
                    | succ nf78 ih78 =>
                      intro v17 v18 v19 H locs hP hD hS ls hl hF
                      rw [f_X7_flecks_L78_s] at hF
                      refine lv_iload hx hb dX7_flecks_78 (lv_at hl 0 rfl) ?_
                      refine lv_iload_n hx hb dX7_flecks_80 rfl (lv_at hl 3 rfl) ?_
                      refine lv_icmp_ge (tgt := 142) hx hb dX7_flecks_81 (by decide) (fun c20 => ?_) (fun c20 => ?_)
                      · have hF := op_pos c20 hF
                        exact hk78 v17 v18 v19 _ _ hP hD hS _ (lv_sub hl [1, 2, 4] rfl) hF
                      · have hF := op_neg c20 hF
                        refine lv_iload hx hb dX7_flecks_84 (lv_at hl 2 rfl) ?_
                        refine lv_iconst (v := (2 : Int32)) hx hb dX7_flecks_86 (by decide) ?_
                        refine lv_irem hx hb dX7_flecks_87 (by decide) ?_
                        refine lv_if_ne (tgt := 110) hx hb dX7_flecks_88 (by decide) (fun c21 => ?_) (fun c21 => ?_)
                        · have hF := op_neg c21 hF
                          refine lv_iload hx hb dX7_flecks_110 (lv_at hl 2 rfl) ?_
                          refine lv_iconst (v := (5 : Int32)) hx hb dX7_flecks_112 (by decide) ?_
                          refine lv_irem hx hb dX7_flecks_113 (by decide) ?_
                          refine lv_if_ne (tgt := 136) hx hb dX7_flecks_114 (by decide) (fun c22 => ?_) (fun c22 => ?_)
                          · have hF := op_neg c22 hF
                            refine lv_iinc (v := (v19 + (1 : Int32))) (lv' := [(8, .int (v19 + (1 : Int32))), (7, .int v18), (6, .int v17), (3, .int n), (5, .int i)]) hx hb dX7_flecks_136 hl (k := 0) rfl (by first | rfl | decide) (by decide) rfl (fun ls hl => ?_)
                            refine lv_goto (tgt := 78) hx hb dX7_flecks_139 (by decide) ?_
                            exact ih78 v17 v18 (v19 + (1 : Int32)) _ _ hP hD hS _ (lv_sub hl [0, 1, 2, 3, 4] rfl) hF
                          · have hF := op_pos c22 hF
                            refine lv_iload hx hb dX7_flecks_117 (lv_at hl 1 rfl) ?_
                            refine lv_iconst (v := (5 : Int32)) hx hb dX7_flecks_119 (by decide) ?_
                            refine lv_irem hx hb dX7_flecks_120 (by decide) ?_
                            refine lv_if_ne (tgt := 136) hx hb dX7_flecks_121 (by decide) (fun c23 => ?_) (fun c23 => ?_)
                            · have hF := op_neg c23 hF
                              refine lv_iinc (v := (v19 + (1 : Int32))) (lv' := [(8, .int (v19 + (1 : Int32))), (7, .int v18), (6, .int v17), (3, .int n), (5, .int i)]) hx hb dX7_flecks_136 hl (k := 0) rfl (by first | rfl | decide) (by decide) rfl (fun ls hl => ?_)
                              refine lv_goto (tgt := 78) hx hb dX7_flecks_139 (by decide) ?_
                              exact ih78 v17 v18 (v19 + (1 : Int32)) _ _ hP hD hS _ (lv_sub hl [0, 1, 2, 3, 4] rfl) hF
                            · have hF := op_pos c23 hF
                              refine lv_iload hx hb dX7_flecks_124 (lv_at hl 2 rfl) ?_
                              refine lv_iconst (v := (5 : Int32)) hx hb dX7_flecks_126 (by decide) ?_
                              refine lv_idiv hx hb dX7_flecks_127 (by decide) ?_
                              refine lv_istore (lv' := [(6, .int (v17 / (5 : Int32))), (8, .int v19), (7, .int v18), (3, .int n), (5, .int i)]) hx hb dX7_flecks_128 hl (by decide) rfl (fun ls hl => ?_)
                              refine lv_iload hx hb dX7_flecks_130 (lv_at hl 2 rfl) ?_
                              refine lv_iconst (v := (5 : Int32)) hx hb dX7_flecks_132 (by decide) ?_
                              refine lv_idiv hx hb dX7_flecks_133 (by decide) ?_
                              refine lv_istore (lv' := [(7, .int (v18 / (5 : Int32))), (6, .int (v17 / (5 : Int32))), (8, .int v19), (3, .int n), (5, .int i)]) hx hb dX7_flecks_134 hl (by decide) rfl (fun ls hl => ?_)
                              refine lv_iinc (v := (v19 + (1 : Int32))) (lv' := [(8, .int (v19 + (1 : Int32))), (7, .int (v18 / (5 : Int32))), (6, .int (v17 / (5 : Int32))), (3, .int n), (5, .int i)]) hx hb dX7_flecks_136 hl (k := 2) rfl (by first | rfl | decide) (by decide) rfl (fun ls hl => ?_)
                              refine lv_goto (tgt := 78) hx hb dX7_flecks_139 (by decide) ?_
                              exact ih78 (v17 / (5 : Int32)) (v18 / (5 : Int32)) (v19 + (1 : Int32)) _ _ hP hD hS _ (lv_sub hl [0, 1, 2, 3, 4] rfl) hF
                        · have hF := op_pos c21 hF
                          refine lv_iload hx hb dX7_flecks_91 (lv_at hl 1 rfl) ?_
                          refine lv_iconst (v := (2 : Int32)) hx hb dX7_flecks_93 (by decide) ?_
                          refine lv_irem hx hb dX7_flecks_94 (by decide) ?_
                          refine lv_if_ne (tgt := 110) hx hb dX7_flecks_95 (by decide) (fun c24 => ?_) (fun c24 => ?_)
                          · have hF := op_neg c24 hF
                            refine lv_iload hx hb dX7_flecks_110 (lv_at hl 2 rfl) ?_
                            refine lv_iconst (v := (5 : Int32)) hx hb dX7_flecks_112 (by decide) ?_
                            refine lv_irem hx hb dX7_flecks_113 (by decide) ?_
                            refine lv_if_ne (tgt := 136) hx hb dX7_flecks_114 (by decide) (fun c25 => ?_) (fun c25 => ?_)
                            · have hF := op_neg c25 hF
                              refine lv_iinc (v := (v19 + (1 : Int32))) (lv' := [(8, .int (v19 + (1 : Int32))), (7, .int v18), (6, .int v17), (3, .int n), (5, .int i)]) hx hb dX7_flecks_136 hl (k := 0) rfl (by first | rfl | decide) (by decide) rfl (fun ls hl => ?_)
                              refine lv_goto (tgt := 78) hx hb dX7_flecks_139 (by decide) ?_
                              exact ih78 v17 v18 (v19 + (1 : Int32)) _ _ hP hD hS _ (lv_sub hl [0, 1, 2, 3, 4] rfl) hF
                            · have hF := op_pos c25 hF
                              refine lv_iload hx hb dX7_flecks_117 (lv_at hl 1 rfl) ?_
                              refine lv_iconst (v := (5 : Int32)) hx hb dX7_flecks_119 (by decide) ?_
                              refine lv_irem hx hb dX7_flecks_120 (by decide) ?_
                              refine lv_if_ne (tgt := 136) hx hb dX7_flecks_121 (by decide) (fun c26 => ?_) (fun c26 => ?_)
                              · have hF := op_neg c26 hF
                                refine lv_iinc (v := (v19 + (1 : Int32))) (lv' := [(8, .int (v19 + (1 : Int32))), (7, .int v18), (6, .int v17), (3, .int n), (5, .int i)]) hx hb dX7_flecks_136 hl (k := 0) rfl (by first | rfl | decide) (by decide) rfl (fun ls hl => ?_)
                                refine lv_goto (tgt := 78) hx hb dX7_flecks_139 (by decide) ?_
                                exact ih78 v17 v18 (v19 + (1 : Int32)) _ _ hP hD hS _ (lv_sub hl [0, 1, 2, 3, 4] rfl) hF
                              · have hF := op_pos c26 hF
                                refine lv_iload hx hb dX7_flecks_124 (lv_at hl 2 rfl) ?_
                                refine lv_iconst (v := (5 : Int32)) hx hb dX7_flecks_126 (by decide) ?_
                                refine lv_idiv hx hb dX7_flecks_127 (by decide) ?_
                                refine lv_istore (lv' := [(6, .int (v17 / (5 : Int32))), (8, .int v19), (7, .int v18), (3, .int n), (5, .int i)]) hx hb dX7_flecks_128 hl (by decide) rfl (fun ls hl => ?_)
                                refine lv_iload hx hb dX7_flecks_130 (lv_at hl 2 rfl) ?_
                                refine lv_iconst (v := (5 : Int32)) hx hb dX7_flecks_132 (by decide) ?_
                                refine lv_idiv hx hb dX7_flecks_133 (by decide) ?_
                                refine lv_istore (lv' := [(7, .int (v18 / (5 : Int32))), (6, .int (v17 / (5 : Int32))), (8, .int v19), (3, .int n), (5, .int i)]) hx hb dX7_flecks_134 hl (by decide) rfl (fun ls hl => ?_)
                                refine lv_iinc (v := (v19 + (1 : Int32))) (lv' := [(8, .int (v19 + (1 : Int32))), (7, .int (v18 / (5 : Int32))), (6, .int (v17 / (5 : Int32))), (3, .int n), (5, .int i)]) hx hb dX7_flecks_136 hl (k := 2) rfl (by first | rfl | decide) (by decide) rfl (fun ls hl => ?_)
                                refine lv_goto (tgt := 78) hx hb dX7_flecks_139 (by decide) ?_
                                exact ih78 (v17 / (5 : Int32)) (v18 / (5 : Int32)) (v19 + (1 : Int32)) _ _ hP hD hS _ (lv_sub hl [0, 1, 2, 3, 4] rfl) hF
                          · have hF := op_pos c24 hF
                            refine lv_iload hx hb dX7_flecks_98 (lv_at hl 2 rfl) ?_
                            refine lv_iconst (v := (2 : Int32)) hx hb dX7_flecks_100 (by decide) ?_
                            refine lv_idiv hx hb dX7_flecks_101 (by decide) ?_
                            refine lv_istore (lv' := [(6, .int (v17 / (2 : Int32))), (8, .int v19), (7, .int v18), (3, .int n), (5, .int i)]) hx hb dX7_flecks_102 hl (by decide) rfl (fun ls hl => ?_)
                            refine lv_iload hx hb dX7_flecks_104 (lv_at hl 2 rfl) ?_
                            refine lv_iconst (v := (2 : Int32)) hx hb dX7_flecks_106 (by decide) ?_
                            refine lv_idiv hx hb dX7_flecks_107 (by decide) ?_
                            refine lv_istore (lv' := [(7, .int (v18 / (2 : Int32))), (6, .int (v17 / (2 : Int32))), (8, .int v19), (3, .int n), (5, .int i)]) hx hb dX7_flecks_108 hl (by decide) rfl (fun ls hl => ?_)
                            refine lv_iload hx hb dX7_flecks_110 (lv_at hl 1 rfl) ?_
                            refine lv_iconst (v := (5 : Int32)) hx hb dX7_flecks_112 (by decide) ?_
                            refine lv_irem hx hb dX7_flecks_113 (by decide) ?_
                            refine lv_if_ne (tgt := 136) hx hb dX7_flecks_114 (by decide) (fun c27 => ?_) (fun c27 => ?_)
                            · have hF := op_neg c27 hF
                              refine lv_iinc (v := (v19 + (1 : Int32))) (lv' := [(8, .int (v19 + (1 : Int32))), (7, .int (v18 / (2 : Int32))), (6, .int (v17 / (2 : Int32))), (3, .int n), (5, .int i)]) hx hb dX7_flecks_136 hl (k := 2) rfl (by first | rfl | decide) (by decide) rfl (fun ls hl => ?_)
                              refine lv_goto (tgt := 78) hx hb dX7_flecks_139 (by decide) ?_
                              exact ih78 (v17 / (2 : Int32)) (v18 / (2 : Int32)) (v19 + (1 : Int32)) _ _ hP hD hS _ (lv_sub hl [0, 1, 2, 3, 4] rfl) hF
                            · have hF := op_pos c27 hF
                              refine lv_iload hx hb dX7_flecks_117 (lv_at hl 0 rfl) ?_
                              refine lv_iconst (v := (5 : Int32)) hx hb dX7_flecks_119 (by decide) ?_
                              refine lv_irem hx hb dX7_flecks_120 (by decide) ?_
                              refine lv_if_ne (tgt := 136) hx hb dX7_flecks_121 (by decide) (fun c28 => ?_) (fun c28 => ?_)
                              · have hF := op_neg c28 hF
                                refine lv_iinc (v := (v19 + (1 : Int32))) (lv' := [(8, .int (v19 + (1 : Int32))), (7, .int (v18 / (2 : Int32))), (6, .int (v17 / (2 : Int32))), (3, .int n), (5, .int i)]) hx hb dX7_flecks_136 hl (k := 2) rfl (by first | rfl | decide) (by decide) rfl (fun ls hl => ?_)
                                refine lv_goto (tgt := 78) hx hb dX7_flecks_139 (by decide) ?_
                                exact ih78 (v17 / (2 : Int32)) (v18 / (2 : Int32)) (v19 + (1 : Int32)) _ _ hP hD hS _ (lv_sub hl [0, 1, 2, 3, 4] rfl) hF
                              · have hF := op_pos c28 hF
                                refine lv_iload hx hb dX7_flecks_124 (lv_at hl 1 rfl) ?_
                                refine lv_iconst (v := (5 : Int32)) hx hb dX7_flecks_126 (by decide) ?_
                                refine lv_idiv hx hb dX7_flecks_127 (by decide) ?_
                                refine lv_istore (lv' := [(6, .int ((v17 / (2 : Int32)) / (5 : Int32))), (7, .int (v18 / (2 : Int32))), (8, .int v19), (3, .int n), (5, .int i)]) hx hb dX7_flecks_128 hl (by decide) rfl (fun ls hl => ?_)
                                refine lv_iload hx hb dX7_flecks_130 (lv_at hl 1 rfl) ?_
                                refine lv_iconst (v := (5 : Int32)) hx hb dX7_flecks_132 (by decide) ?_
                                refine lv_idiv hx hb dX7_flecks_133 (by decide) ?_
                                refine lv_istore (lv' := [(7, .int ((v18 / (2 : Int32)) / (5 : Int32))), (6, .int ((v17 / (2 : Int32)) / (5 : Int32))), (8, .int v19), (3, .int n), (5, .int i)]) hx hb dX7_flecks_134 hl (by decide) rfl (fun ls hl => ?_)
                                refine lv_iinc (v := (v19 + (1 : Int32))) (lv' := [(8, .int (v19 + (1 : Int32))), (7, .int ((v18 / (2 : Int32)) / (5 : Int32))), (6, .int ((v17 / (2 : Int32)) / (5 : Int32))), (3, .int n), (5, .int i)]) hx hb dX7_flecks_136 hl (k := 2) rfl (by first | rfl | decide) (by decide) rfl (fun ls hl => ?_)
                                refine lv_goto (tgt := 78) hx hb dX7_flecks_139 (by decide) ?_
                                exact ih78 ((v17 / (2 : Int32)) / (5 : Int32)) ((v18 / (2 : Int32)) / (5 : Int32)) (v19 + (1 : Int32)) _ _ hP hD hS _ (lv_sub hl [0, 1, 2, 3, 4] rfl) hF
                  refine hL78 _ (fun v17 v18 v19 H locs hP hD hS ls hl hF => ?_) 20000 r13 r15 (0 : Int32) _ _ hP hD hS _ (lv_sub hl [0, 1, 2, 6, 8] rfl) hF
                  refine lv_iload hx hb dX7_flecks_142 (lv_at hl 2 rfl) ?_
                  refine lv_if_ne (tgt := 152) hx hb dX7_flecks_144 (by decide) (fun c29 => ?_) (fun c29 => ?_)
                  · have hF := op_neg c29 hF
                    refine lv_iload hx hb dX7_flecks_152 (lv_at hl 0 rfl) ?_
                    cases hF
                    rw [hQ]
                    exact xri hC hP hS dX7_flecks_154
                  · have hF := op_pos c29 hF
                    refine lv_iload hx hb dX7_flecks_147 (lv_at hl 1 rfl) ?_
                    refine lv_goto (tgt := 154) hx hb dX7_flecks_149 (by decide) ?_
                    cases hF
                    rw [hQ]
                    exact xri hC hP hS dX7_flecks_154
                · have hF := op_neg c12 hF
                  refine lv_iconst (v := (-1 : Int32)) hx hb dX7_flecks_51 (by decide) ?_
                  cases hF
                  rw [hQ]
                  exact xri hC hP hS dX7_flecks_52

def f_X7_day_L47 (n : Int32) (z0 : Int32) (psq : Int32) (ppa : Int32) (ppe : Int32) (pwo : Int32) (pkind : (Nat → Int32)) (pwsq : (Nat → Int32)) (pwhr : (Nat → Int32)) (k47 : Int32 → Int32 → Int32 → Int32 → Int32 → (Nat → Int32) → (Nat → Int32) → (Nat → Int32) → (Nat → Int32) → Option (Int32 × Int32 × Int32 × Int32 × Int32 × (Nat → Int32) × (Nat → Int32) × (Nat → Int32) × (Nat → Int32))) : Nat → Int32 → Int32 → Int32 → Int32 → Int32 → (Nat → Int32) → (Nat → Int32) → (Nat → Int32) → (Nat → Int32) → Option (Int32 × Int32 × Int32 × Int32 × Int32 × (Nat → Int32) × (Nat → Int32) × (Nat → Int32) × (Nat → Int32))
  | 0, _, _, _, _, _, _, _, _, _ => none
  | nf47 + 1, v16, jgone_17, jmet_18, jstill_19, jdone_20, jhour_21, jworn_22, jsquare_23, junder_24 => (if n ≤ v16 then (k47 v16 jgone_17 jmet_18 jstill_19 jdone_20 jhour_21 jworn_22 jsquare_23 junder_24) else (Option.bind (f_X7_drawOf z0 v16) fun r26 => (Option.bind (f_X1_actByDraw jstill_19 jworn_22 jsquare_23 junder_24 psq ppa ppe r26) fun (qstill_28, qworn_29, qsquare_30, qunder_31) => (Option.bind (f_X1_goOn jgone_17 jmet_18 qstill_28 jdone_20 jhour_21 qworn_29 qsquare_30 qunder_31 ppa ppe pwo pkind pwsq pwhr (1 : Int32)) fun (qgone_33, qmet_34, qstill_35, qdone_36, qhour_37, qworn_38) => (f_X7_day_L47 n z0 psq ppa ppe pwo pkind pwsq pwhr k47 nf47 (v16 + (1 : Int32)) qgone_33 qmet_34 qstill_35 qdone_36 qhour_37 qworn_38 qsquare_30 qunder_31)))))
theorem f_X7_day_L47_0 (n : Int32) (z0 : Int32) (psq : Int32) (ppa : Int32) (ppe : Int32) (pwo : Int32) (pkind : (Nat → Int32)) (pwsq : (Nat → Int32)) (pwhr : (Nat → Int32)) (k47 : Int32 → Int32 → Int32 → Int32 → Int32 → (Nat → Int32) → (Nat → Int32) → (Nat → Int32) → (Nat → Int32) → Option (Int32 × Int32 × Int32 × Int32 × Int32 × (Nat → Int32) × (Nat → Int32) × (Nat → Int32) × (Nat → Int32))) (v16 : Int32) (jgone_17 : Int32) (jmet_18 : Int32) (jstill_19 : Int32) (jdone_20 : Int32) (jhour_21 : (Nat → Int32)) (jworn_22 : (Nat → Int32)) (jsquare_23 : (Nat → Int32)) (junder_24 : (Nat → Int32)) : f_X7_day_L47 n z0 psq ppa ppe pwo pkind pwsq pwhr k47 0 v16 jgone_17 jmet_18 jstill_19 jdone_20 jhour_21 jworn_22 jsquare_23 junder_24 = none := rfl
theorem f_X7_day_L47_s (n : Int32) (z0 : Int32) (psq : Int32) (ppa : Int32) (ppe : Int32) (pwo : Int32) (pkind : (Nat → Int32)) (pwsq : (Nat → Int32)) (pwhr : (Nat → Int32)) (k47 : Int32 → Int32 → Int32 → Int32 → Int32 → (Nat → Int32) → (Nat → Int32) → (Nat → Int32) → (Nat → Int32) → Option (Int32 × Int32 × Int32 × Int32 × Int32 × (Nat → Int32) × (Nat → Int32) × (Nat → Int32) × (Nat → Int32))) (nf47 : Nat) (v16 : Int32) (jgone_17 : Int32) (jmet_18 : Int32) (jstill_19 : Int32) (jdone_20 : Int32) (jhour_21 : (Nat → Int32)) (jworn_22 : (Nat → Int32)) (jsquare_23 : (Nat → Int32)) (junder_24 : (Nat → Int32)) : f_X7_day_L47 n z0 psq ppa ppe pwo pkind pwsq pwhr k47 (nf47 + 1) v16 jgone_17 jmet_18 jstill_19 jdone_20 jhour_21 jworn_22 jsquare_23 junder_24 = (if n ≤ v16 then (k47 v16 jgone_17 jmet_18 jstill_19 jdone_20 jhour_21 jworn_22 jsquare_23 junder_24) else (Option.bind (f_X7_drawOf z0 v16) fun r26 => (Option.bind (f_X1_actByDraw jstill_19 jworn_22 jsquare_23 junder_24 psq ppa ppe r26) fun (qstill_28, qworn_29, qsquare_30, qunder_31) => (Option.bind (f_X1_goOn jgone_17 jmet_18 qstill_28 jdone_20 jhour_21 qworn_29 qsquare_30 qunder_31 ppa ppe pwo pkind pwsq pwhr (1 : Int32)) fun (qgone_33, qmet_34, qstill_35, qdone_36, qhour_37, qworn_38) => (f_X7_day_L47 n z0 psq ppa ppe pwo pkind pwsq pwhr k47 nf47 (v16 + (1 : Int32)) qgone_33 qmet_34 qstill_35 qdone_36 qhour_37 qworn_38 qsquare_30 qunder_31))))) := rfl

def f_X7_day (psq : Int32) (ppa : Int32) (ppe : Int32) (pwo : Int32) (pkind : (Nat → Int32)) (pwsq : (Nat → Int32)) (pwhr : (Nat → Int32)) (qgone : Int32) (qmet : Int32) (qstill : Int32) (qdone : Int32) (qhour : (Nat → Int32)) (qworn : (Nat → Int32)) (qsquare : (Nat → Int32)) (qunder : (Nat → Int32)) (jgone : Int32) (jmet : Int32) (jstill : Int32) (jdone : Int32) (jhour : (Nat → Int32)) (jworn : (Nat → Int32)) (jsquare : (Nat → Int32)) (junder : (Nat → Int32)) (z0 : Int32) (n : Int32) (w : Int32) : Option (Int32 × Int32 × Int32 × Int32 × Int32 × (Nat → Int32) × (Nat → Int32) × (Nat → Int32) × (Nat → Int32)) := (if z0 < 0 then (some ((-1 : Int32), jgone, jmet, jstill, jdone, jhour, jworn, jsquare, junder)) else (if (9999 : Int32) < z0 then (some ((-1 : Int32), jgone, jmet, jstill, jdone, jhour, jworn, jsquare, junder)) else (if n < (1 : Int32) then (some ((-1 : Int32), jgone, jmet, jstill, jdone, jhour, jworn, jsquare, junder)) else (if (60 : Int32) < n then (some ((-1 : Int32), jgone, jmet, jstill, jdone, jhour, jworn, jsquare, junder)) else (if w < 0 then (some ((-1 : Int32), jgone, jmet, jstill, jdone, jhour, jworn, jsquare, junder)) else (if w ≤ (1 : Int32) then (Option.bind (f_X1_copyFrom jhour jworn jsquare junder qgone qmet qstill qdone qhour qworn qsquare qunder) fun (qgone_7, qmet_8, qstill_9, qdone_10, qhour_11, qworn_12, qsquare_13, qunder_14) => (f_X7_day_L47 n z0 psq ppa ppe pwo pkind pwsq pwhr (fun (v16 : Int32) (jgone_17 : Int32) (jmet_18 : Int32) (jstill_19 : Int32) (jdone_20 : Int32) (jhour_21 : (Nat → Int32)) (jworn_22 : (Nat → Int32)) (jsquare_23 : (Nat → Int32)) (junder_24 : (Nat → Int32)) => (if w = 0 then (Option.bind (f_J6_bitCount_0f7a4 jdone_20) fun r41 => (some (r41, jgone_17, jmet_18, jstill_19, jdone_20, jhour_21, jworn_22, jsquare_23, junder_24))) else (some ((jmet_18 - qmet), jgone_17, jmet_18, jstill_19, jdone_20, jhour_21, jworn_22, jsquare_23, junder_24)))) 20000 (0 : Int32) qgone_7 qmet_8 qstill_9 qdone_10 qhour_11 qworn_12 qsquare_13 qunder_14)) else (some ((-1 : Int32), jgone, jmet, jstill, jdone, jhour, jworn, jsquare, junder))))))))

def rm_X7_day : Room := { frames := 6, cells := 0, slots := 0, locals := 134 }

theorem pd_X7_day : yX7_day.cls ≠ "java/lang/invoke/MethodHandle" ∧ yX7_day.cls ≠ "java/lang/invoke/VarHandle" ∧ (parseMethodDescriptor yX7_day.desc).map (fun d => d.parameters.length) = some 3 := by decide +kernel

set_option maxHeartbeats 4000000 in
set_option maxRecDepth 100000 in
theorem c_X7_day (l : Launch) (D : va_G) (cI cC cM : ClassId) (ax ap apk apq apr aq aqh aqw aqs aqu aj ajh ajw ajs aju ay ar az ak ae ad : Nat) (psq : Int32) (ppa : Int32) (ppe : Int32) (pwo : Int32) (pkind : (Nat → Int32)) (pwsq : (Nat → Int32)) (pwhr : (Nat → Int32)) (qgone : Int32) (qmet : Int32) (qstill : Int32) (qdone : Int32) (qhour : (Nat → Int32)) (qworn : (Nat → Int32)) (qsquare : (Nat → Int32)) (qunder : (Nat → Int32)) (jgone : Int32) (jmet : Int32) (jstill : Int32) (jdone : Int32) (jhour : (Nat → Int32)) (jworn : (Nat → Int32)) (jsquare : (Nat → Int32)) (junder : (Nat → Int32)) (z0 : Int32) (n : Int32) (w : Int32) (rr : Int32) (jgone' : Int32) (jmet' : Int32) (jstill' : Int32) (jdone' : Int32) (jhour' : (Nat → Int32)) (jworn' : (Nat → Int32)) (jsquare' : (Nat → Int32)) (junder' : (Nat → Int32)) (hF : f_X7_day psq ppa ppe pwo pkind pwsq pwhr qgone qmet qstill qdone qhour qworn qsquare qunder jgone jmet jstill jdone jhour jworn jsquare junder z0 n w = some (rr, jgone', jmet', jstill', jdone', jhour', jworn', jsquare', junder')) : CI l D cI cC cM yX7_day wsX7_day rm_X7_day [.ref ax, .int z0, .int n, .int w] [(ax, .inr (7, [.ref ay, .ref ar, .ref ap, .ref aq, .ref aj, .ref az, .ref ak, .ref ae, .ref ad])), (ap, .inr (2, [.int psq, .int ppa, .int ppe, .int pwo, .ref apk, .ref apq, .ref apr])), (apk, .inl (cI, 6, .inl pkind)), (apq, .inl (cI, 6, .inl pwsq)), (apr, .inl (cI, 6, .inl pwhr)), (aq, .inr (1, [.ref ap, .int qgone, .int qmet, .int qstill, .int qdone, .ref aqh, .ref aqw, .ref aqs, .ref aqu])), (aqh, .inl (cI, 6, .inl qhour)), (aqw, .inl (cI, 6, .inl qworn)), (aqs, .inl (cI, 5, .inl qsquare)), (aqu, .inl (cI, 5, .inl qunder)), (aj, .inr (1, [.ref ap, .int jgone, .int jmet, .int jstill, .int jdone, .ref ajh, .ref ajw, .ref ajs, .ref aju])), (ajh, .inl (cI, 6, .inl jhour)), (ajw, .inl (cI, 6, .inl jworn)), (ajs, .inl (cI, 5, .inl jsquare)), (aju, .inl (cI, 5, .inl junder))] [(ax, .inr (7, [.ref ay, .ref ar, .ref ap, .ref aq, .ref aj, .ref az, .ref ak, .ref ae, .ref ad])), (ap, .inr (2, [.int psq, .int ppa, .int ppe, .int pwo, .ref apk, .ref apq, .ref apr])), (apk, .inl (cI, 6, .inl pkind)), (apq, .inl (cI, 6, .inl pwsq)), (apr, .inl (cI, 6, .inl pwhr)), (aq, .inr (1, [.ref ap, .int qgone, .int qmet, .int qstill, .int qdone, .ref aqh, .ref aqw, .ref aqs, .ref aqu])), (aqh, .inl (cI, 6, .inl qhour)), (aqw, .inl (cI, 6, .inl qworn)), (aqs, .inl (cI, 5, .inl qsquare)), (aqu, .inl (cI, 5, .inl qunder)), (aj, .inr (1, [.ref ap, .int jgone', .int jmet', .int jstill', .int jdone', .ref ajh, .ref ajw, .ref ajs, .ref aju])), (ajh, .inl (cI, 6, .inl jhour')), (ajw, .inl (cI, 6, .inl jworn')), (ajs, .inl (cI, 5, .inl jsquare')), (aju, .inl (cI, 5, .inl junder'))] rr := by
  refine CI.of (cc := cX7_day) (nL := 5) (ret := (some .int)) (by decide) rfl (Nat.le_of_ble_eq_true rfl) ?_
  intro p e s m args below meth c A hC hP hD hS ls hl
  obtain ⟨hx, hb, hml, hown, hts, hr, hlk, hG, hA⟩ := id hC
  have hown : s.vm.findClass RX7 = some m.cls := hown
  have hK := hG.1
  have hl : lv_has ls 5 [(0, .ref ax), (1, .int z0), (2, .int n), (3, .int w)] := hl
  have k_f39 := hts (.fieldLink RX7 39 "ParasolHours" "trial" "LParasolHours$Moment;") (List.mem_of_getElem? (i := 1) rfl)
  have k_f35 := hts (.fieldLink RX7 35 "ParasolHours" "now" "LParasolHours$Moment;") (List.mem_of_getElem? (i := 2) rfl)
  have k_f272 := hts (.fieldLink RX7 272 "ParasolHours$Moment" "met" "I") (List.mem_of_getElem? (i := 4) rfl)
  have k_f269 := hts (.fieldLink RX7 269 "ParasolHours$Moment" "doneBits" "I") (List.mem_of_getElem? (i := 3) rfl)
  have iX1 : ∀ w ∈ wsX10, w ∈ wsX7_day := by decide +kernel
  have iX7 : ∀ w ∈ wsX70, w ∈ wsX7_day := by decide +kernel
  obtain ⟨Q, hQ⟩ : ∃ Q, Q = MQ below (QI D [(ax, .inr (7, [.ref ay, .ref ar, .ref ap, .ref aq, .ref aj, .ref az, .ref ak, .ref ae, .ref ad])), (ap, .inr (2, [.int psq, .int ppa, .int ppe, .int pwo, .ref apk, .ref apq, .ref apr])), (apk, .inl (cI, 6, .inl pkind)), (apq, .inl (cI, 6, .inl pwsq)), (apr, .inl (cI, 6, .inl pwhr)), (aq, .inr (1, [.ref ap, .int qgone, .int qmet, .int qstill, .int qdone, .ref aqh, .ref aqw, .ref aqs, .ref aqu])), (aqh, .inl (cI, 6, .inl qhour)), (aqw, .inl (cI, 6, .inl qworn)), (aqs, .inl (cI, 5, .inl qsquare)), (aqu, .inl (cI, 5, .inl qunder)), (aj, .inr (1, [.ref ap, .int jgone', .int jmet', .int jstill', .int jdone', .ref ajh, .ref ajw, .ref ajs, .ref aju])), (ajh, .inl (cI, 6, .inl jhour')), (ajw, .inl (cI, 6, .inl jworn')), (ajs, .inl (cI, 5, .inl jsquare')), (aju, .inl (cI, 5, .inl junder'))] rr A) args s 0 0 A := ⟨_, rfl⟩
  rw [← hQ]
  unfold f_X7_day at hF
  refine lv_iload_n hx hb dX7_day_0 rfl (lv_at hl 1 rfl) ?_
  refine lv_if_lt (tgt := 31) hx hb dX7_day_1 (by decide) (fun c1 => ?_) (fun c1 => ?_)
  · have hF := op_pos c1 hF
    refine lv_iconst (v := (-1 : Int32)) hx hb dX7_day_31 (by decide) ?_
    cases hF
    rw [hQ]
    exact xri hC hP hS dX7_day_32
  · have hF := op_neg c1 hF
    refine lv_iload_n hx hb dX7_day_4 rfl (lv_at hl 1 rfl) ?_
    refine lv_sipush (v := (9999 : Int32)) hx hb dX7_day_5 (by decide) ?_
    refine lv_icmp_gt (tgt := 31) hx hb dX7_day_8 (by decide) (fun c2 => ?_) (fun c2 => ?_)
    · have hF := op_pos c2 hF
      refine lv_iconst (v := (-1 : Int32)) hx hb dX7_day_31 (by decide) ?_
      cases hF
      rw [hQ]
      exact xri hC hP hS dX7_day_32
    · have hF := op_neg c2 hF
      refine lv_iload_n hx hb dX7_day_11 rfl (lv_at hl 2 rfl) ?_
      refine lv_iconst (v := (1 : Int32)) hx hb dX7_day_12 (by decide) ?_
      refine lv_icmp_lt (tgt := 31) hx hb dX7_day_13 (by decide) (fun c3 => ?_) (fun c3 => ?_)
      · have hF := op_pos c3 hF
        refine lv_iconst (v := (-1 : Int32)) hx hb dX7_day_31 (by decide) ?_
        cases hF
        rw [hQ]
        exact xri hC hP hS dX7_day_32
      · have hF := op_neg c3 hF
        refine lv_iload_n hx hb dX7_day_16 rfl (lv_at hl 2 rfl) ?_
        refine lv_bipush (v := (60 : Int32)) hx hb dX7_day_17 (by decide) ?_
        refine lv_icmp_gt (tgt := 31) hx hb dX7_day_19 (by decide) (fun c4 => ?_) (fun c4 => ?_)
        · have hF := op_pos c4 hF
          refine lv_iconst (v := (-1 : Int32)) hx hb dX7_day_31 (by decide) ?_
          cases hF
          rw [hQ]
          exact xri hC hP hS dX7_day_32
        · have hF := op_neg c4 hF
          refine lv_iload_n hx hb dX7_day_22 rfl (lv_at hl 3 rfl) ?_
          refine lv_if_lt (tgt := 31) hx hb dX7_day_23 (by decide) (fun c5 => ?_) (fun c5 => ?_)
          · have hF := op_pos c5 hF
            refine lv_iconst (v := (-1 : Int32)) hx hb dX7_day_31 (by decide) ?_
            cases hF
            rw [hQ]
            exact xri hC hP hS dX7_day_32
          · have hF := op_neg c5 hF
            refine lv_iload_n hx hb dX7_day_26 rfl (lv_at hl 3 rfl) ?_
            refine lv_iconst (v := (1 : Int32)) hx hb dX7_day_27 (by decide) ?_
            refine lv_icmp_le (tgt := 33) hx hb dX7_day_28 (by decide) (fun c6 => ?_) (fun c6 => ?_)
            · have hF := op_pos c6 hF
              refine lv_aload_n hx hb dX7_day_33 rfl (lv_at hl 0 rfl) ?_
              refine va_get (D := D) (ci := 7) (v := .ref aj) (C := RX7) (T := TX7) (N := 9) hx hb hts iX7 hown hK hP 0 rfl rfl 4 (by decide) k_f39 (fun _ h9 => h9) rfl dX7_day_34 ?_
              refine lv_aload_n hx hb dX7_day_37 rfl (lv_at hl 0 rfl) ?_
              refine va_get (D := D) (ci := 7) (v := .ref aq) (C := RX7) (T := TX7) (N := 9) hx hb hts iX7 hown hK hP 0 rfl rfl 3 (by decide) k_f35 (fun _ h9 => h9) rfl dX7_day_38 ?_
              obtain ⟨⟨qgone_7, qmet_8, qstill_9, qdone_10, qhour_11, qworn_12, qsquare_13, qunder_14⟩, hb15, hF⟩ := op_bind hF
              refine zVv (ws' := [(ax, .inr (7, [.ref ay, .ref ar, .ref ap, .ref aq, .ref aj, .ref az, .ref ak, .ref ae, .ref ad])), (ap, .inr (2, [.int psq, .int ppa, .int ppe, .int pwo, .ref apk, .ref apq, .ref apr])), (apk, .inl (cI, 6, .inl pkind)), (apq, .inl (cI, 6, .inl pwsq)), (apr, .inl (cI, 6, .inl pwhr)), (aq, .inr (1, [.ref ap, .int qgone, .int qmet, .int qstill, .int qdone, .ref aqh, .ref aqw, .ref aqs, .ref aqu])), (aqh, .inl (cI, 6, .inl qhour)), (aqw, .inl (cI, 6, .inl qworn)), (aqs, .inl (cI, 5, .inl qsquare)), (aqu, .inl (cI, 5, .inl qunder)), (aj, .inr (1, [.ref ap, .int qgone_7, .int qmet_8, .int qstill_9, .int qdone_10, .ref ajh, .ref ajw, .ref ajs, .ref aju])), (ajh, .inl (cI, 6, .inl qhour_11)), (ajw, .inl (cI, 6, .inl qworn_12)), (ajs, .inl (cI, 5, .inl qsquare_13)), (aju, .inl (cI, 5, .inl qunder_14))]) (wr := [(ax, .inr (7, [.ref ay, .ref ar, .ref ap, .ref aq, .ref aj, .ref az, .ref ak, .ref ae, .ref ad])), (ap, .inr (2, [.int psq, .int ppa, .int ppe, .int pwo, .ref apk, .ref apq, .ref apr])), (apk, .inl (cI, 6, .inl pkind)), (apq, .inl (cI, 6, .inl pwsq)), (apr, .inl (cI, 6, .inl pwhr))]) (As := [.ref aq]) (rest := []) hC hP hD hS [10, 11, 12, 13, 14, 5, 6, 7, 8, 9] [0, 1, 2, 3, 4] (c_X1_copyFrom l D cI cC cM aj ajh ajw ajs aju aq aqh aqw aqs aqu ap ap jgone jmet jstill jdone jhour jworn jsquare junder qgone qmet qstill qdone qhour qworn qsquare qunder qgone_7 qmet_8 qstill_9 qdone_10 qhour_11 qworn_12 qsquare_13 qunder_14 hb15) (cwV 1 hts gX7_day_X1_copyFrom rfl rfl rfl ⟨rfl, pd_X1_copyFrom⟩ ⟨Nat.le_of_ble_eq_true rfl, Nat.le_of_ble_eq_true rfl⟩) 15 (by decide +kernel) rfl rfl rfl rfl rfl rfl 10 1 rfl rfl rfl rfl hl.1 rfl (Nat.le_of_ble_eq_true rfl) dX7_day_41 ⟨Nat.zero_le _, Nat.zero_le _⟩ (fun H locs hP hD hS => ?_)
              refine lv_iconst (v := (0 : Int32)) hx hb dX7_day_44 (by decide) ?_
              refine lv_istore (lv' := [(4, .int (0 : Int32)), (0, .ref ax), (1, .int z0), (2, .int n), (3, .int w)]) hx hb dX7_day_45 hl (by decide) rfl (fun ls hl => ?_)
              have hL47 : ∀ (k47 : Int32 → Int32 → Int32 → Int32 → Int32 → (Nat → Int32) → (Nat → Int32) → (Nat → Int32) → (Nat → Int32) → Option (Int32 × Int32 × Int32 × Int32 × Int32 × (Nat → Int32) × (Nat → Int32) × (Nat → Int32) × (Nat → Int32))), (∀ (v16 : Int32) (jgone_17 : Int32) (jmet_18 : Int32) (jstill_19 : Int32) (jdone_20 : Int32) (jhour_21 : (Nat → Int32)) (jworn_22 : (Nat → Int32)) (jsquare_23 : (Nat → Int32)) (junder_24 : (Nat → Int32)) (H : Heap) (locs : List Loc), va_P D vwCl [(ax, .inr (7, [.ref ay, .ref ar, .ref ap, .ref aq, .ref aj, .ref az, .ref ak, .ref ae, .ref ad])), (ap, .inr (2, [.int psq, .int ppa, .int ppe, .int pwo, .ref apk, .ref apq, .ref apr])), (apk, .inl (cI, 6, .inl pkind)), (apq, .inl (cI, 6, .inl pwsq)), (apr, .inl (cI, 6, .inl pwhr)), (aq, .inr (1, [.ref ap, .int qgone, .int qmet, .int qstill, .int qdone, .ref aqh, .ref aqw, .ref aqs, .ref aqu])), (aqh, .inl (cI, 6, .inl qhour)), (aqw, .inl (cI, 6, .inl qworn)), (aqs, .inl (cI, 5, .inl qsquare)), (aqu, .inl (cI, 5, .inl qunder)), (aj, .inr (1, [.ref ap, .int jgone_17, .int jmet_18, .int jstill_19, .int jdone_20, .ref ajh, .ref ajw, .ref ajs, .ref aju])), (ajh, .inl (cI, 6, .inl jhour_21)), (ajw, .inl (cI, 6, .inl jworn_22)), (ajs, .inl (cI, 5, .inl jsquare_23)), (aju, .inl (cI, 5, .inl junder_24))] H → va_D A [(ax, .inr (7, [.ref ay, .ref ar, .ref ap, .ref aq, .ref aj, .ref az, .ref ak, .ref ae, .ref ad])), (ap, .inr (2, [.int psq, .int ppa, .int ppe, .int pwo, .ref apk, .ref apq, .ref apr])), (apk, .inl (cI, 6, .inl pkind)), (apq, .inl (cI, 6, .inl pwsq)), (apr, .inl (cI, 6, .inl pwhr)), (aq, .inr (1, [.ref ap, .int qgone, .int qmet, .int qstill, .int qdone, .ref aqh, .ref aqw, .ref aqs, .ref aqu])), (aqh, .inl (cI, 6, .inl qhour)), (aqw, .inl (cI, 6, .inl qworn)), (aqs, .inl (cI, 5, .inl qsquare)), (aqu, .inl (cI, 5, .inl qunder)), (aj, .inr (1, [.ref ap, .int jgone_17, .int jmet_18, .int jstill_19, .int jdone_20, .ref ajh, .ref ajw, .ref ajs, .ref aju])), (ajh, .inl (cI, 6, .inl jhour_21)), (ajw, .inl (cI, 6, .inl jworn_22)), (ajs, .inl (cI, 5, .inl jsquare_23)), (aju, .inl (cI, 5, .inl junder_24))] → va_S A s.heap H locs → ∀ ls : Array Slot, lv_has ls 5 [(0, .ref ax), (3, .int w)] → k47 v16 jgone_17 jmet_18 jstill_19 jdone_20 jhour_21 jworn_22 jsquare_23 junder_24 = some (rr, jgone', jmet', jstill', jdone', jhour', jworn', jsquare', junder') → W p l e rm_X7_day s m args below meth c H locs 0 0 Q (F0 m 80 ls [])) → ∀ (nf47 : Nat) (v16 : Int32) (jgone_17 : Int32) (jmet_18 : Int32) (jstill_19 : Int32) (jdone_20 : Int32) (jhour_21 : (Nat → Int32)) (jworn_22 : (Nat → Int32)) (jsquare_23 : (Nat → Int32)) (junder_24 : (Nat → Int32)) (H : Heap) (locs : List Loc), va_P D vwCl [(ax, .inr (7, [.ref ay, .ref ar, .ref ap, .ref aq, .ref aj, .ref az, .ref ak, .ref ae, .ref ad])), (ap, .inr (2, [.int psq, .int ppa, .int ppe, .int pwo, .ref apk, .ref apq, .ref apr])), (apk, .inl (cI, 6, .inl pkind)), (apq, .inl (cI, 6, .inl pwsq)), (apr, .inl (cI, 6, .inl pwhr)), (aq, .inr (1, [.ref ap, .int qgone, .int qmet, .int qstill, .int qdone, .ref aqh, .ref aqw, .ref aqs, .ref aqu])), (aqh, .inl (cI, 6, .inl qhour)), (aqw, .inl (cI, 6, .inl qworn)), (aqs, .inl (cI, 5, .inl qsquare)), (aqu, .inl (cI, 5, .inl qunder)), (aj, .inr (1, [.ref ap, .int jgone_17, .int jmet_18, .int jstill_19, .int jdone_20, .ref ajh, .ref ajw, .ref ajs, .ref aju])), (ajh, .inl (cI, 6, .inl jhour_21)), (ajw, .inl (cI, 6, .inl jworn_22)), (ajs, .inl (cI, 5, .inl jsquare_23)), (aju, .inl (cI, 5, .inl junder_24))] H → va_D A [(ax, .inr (7, [.ref ay, .ref ar, .ref ap, .ref aq, .ref aj, .ref az, .ref ak, .ref ae, .ref ad])), (ap, .inr (2, [.int psq, .int ppa, .int ppe, .int pwo, .ref apk, .ref apq, .ref apr])), (apk, .inl (cI, 6, .inl pkind)), (apq, .inl (cI, 6, .inl pwsq)), (apr, .inl (cI, 6, .inl pwhr)), (aq, .inr (1, [.ref ap, .int qgone, .int qmet, .int qstill, .int qdone, .ref aqh, .ref aqw, .ref aqs, .ref aqu])), (aqh, .inl (cI, 6, .inl qhour)), (aqw, .inl (cI, 6, .inl qworn)), (aqs, .inl (cI, 5, .inl qsquare)), (aqu, .inl (cI, 5, .inl qunder)), (aj, .inr (1, [.ref ap, .int jgone_17, .int jmet_18, .int jstill_19, .int jdone_20, .ref ajh, .ref ajw, .ref ajs, .ref aju])), (ajh, .inl (cI, 6, .inl jhour_21)), (ajw, .inl (cI, 6, .inl jworn_22)), (ajs, .inl (cI, 5, .inl jsquare_23)), (aju, .inl (cI, 5, .inl junder_24))] → va_S A s.heap H locs → ∀ ls : Array Slot, lv_has ls 5 [(4, .int v16), (0, .ref ax), (1, .int z0), (2, .int n), (3, .int w)] → f_X7_day_L47 n z0 psq ppa ppe pwo pkind pwsq pwhr k47 nf47 v16 jgone_17 jmet_18 jstill_19 jdone_20 jhour_21 jworn_22 jsquare_23 junder_24 = some (rr, jgone', jmet', jstill', jdone', jhour', jworn', jsquare', junder') → W p l e rm_X7_day s m args below meth c H locs 0 0 Q (F0 m 47 ls []) := by
                intro k47 hk47 nf47
                induction nf47 with
                | zero =>
                  intro v16 jgone_17 jmet_18 jstill_19 jdone_20 jhour_21 jworn_22 jsquare_23 junder_24 H locs hP hD hS ls hl hF
                  rw [f_X7_day_L47_0] at hF
                  cases hF
                | succ nf47 ih47 =>
                  intro v16 jgone_17 jmet_18 jstill_19 jdone_20 jhour_21 jworn_22 jsquare_23 junder_24 H locs hP hD hS ls hl hF
                  rw [f_X7_day_L47_s] at hF
                  refine lv_iload hx hb dX7_day_47 (lv_at hl 0 rfl) ?_
                  refine lv_iload_n hx hb dX7_day_49 rfl (lv_at hl 3 rfl) ?_
                  refine lv_icmp_ge (tgt := 80) hx hb dX7_day_50 (by decide) (fun c25 => ?_) (fun c25 => ?_)
                  · have hF := op_pos c25 hF
                    exact hk47 v16 jgone_17 jmet_18 jstill_19 jdone_20 jhour_21 jworn_22 jsquare_23 junder_24 _ _ hP hD hS _ (lv_sub hl [1, 4] rfl) hF
                  · have hF := op_neg c25 hF
                    refine lv_aload_n hx hb dX7_day_53 rfl (lv_at hl 1 rfl) ?_
                    refine va_get (D := D) (ci := 7) (v := .ref aj) (C := RX7) (T := TX7) (N := 9) hx hb hts iX7 hown hK hP 0 rfl rfl 4 (by decide) k_f39 (fun _ h9 => h9) rfl dX7_day_54 ?_
                    refine lv_iload_n hx hb dX7_day_57 rfl (lv_at hl 2 rfl) ?_
                    refine lv_iload hx hb dX7_day_58 (lv_at hl 0 rfl) ?_
                    obtain ⟨r26, hb27, hF⟩ := op_bind hF
                    refine xSr (As := [.int z0, .int v16]) (rest := [.ref aj]) hC hP hD hS [] (c_X7_drawOf l D cI cC cM z0 v16 r26 hb27) (va_cwS 2 hts gX7_day_X7_drawOf rfl rfl rfl pd_X7_drawOf ⟨Nat.le_of_ble_eq_true rfl, Nat.le_of_ble_eq_true rfl⟩) rfl rfl rfl hl.1 rfl (Nat.le_of_ble_eq_true rfl) dX7_day_60 ⟨Nat.zero_le _, Nat.zero_le _⟩ (fun H locs hP hS => ?_)
                    obtain ⟨⟨qstill_28, qworn_29, qsquare_30, qunder_31⟩, hb32, hF⟩ := op_bind hF
                    refine zVv (ws' := [(ax, .inr (7, [.ref ay, .ref ar, .ref ap, .ref aq, .ref aj, .ref az, .ref ak, .ref ae, .ref ad])), (ap, .inr (2, [.int psq, .int ppa, .int ppe, .int pwo, .ref apk, .ref apq, .ref apr])), (apk, .inl (cI, 6, .inl pkind)), (apq, .inl (cI, 6, .inl pwsq)), (apr, .inl (cI, 6, .inl pwhr)), (aq, .inr (1, [.ref ap, .int qgone, .int qmet, .int qstill, .int qdone, .ref aqh, .ref aqw, .ref aqs, .ref aqu])), (aqh, .inl (cI, 6, .inl qhour)), (aqw, .inl (cI, 6, .inl qworn)), (aqs, .inl (cI, 5, .inl qsquare)), (aqu, .inl (cI, 5, .inl qunder)), (aj, .inr (1, [.ref ap, .int jgone_17, .int jmet_18, .int qstill_28, .int jdone_20, .ref ajh, .ref ajw, .ref ajs, .ref aju])), (ajh, .inl (cI, 6, .inl jhour_21)), (ajw, .inl (cI, 6, .inl qworn_29)), (ajs, .inl (cI, 5, .inl qsquare_30)), (aju, .inl (cI, 5, .inl qunder_31))]) (wr := [(ax, .inr (7, [.ref ay, .ref ar, .ref ap, .ref aq, .ref aj, .ref az, .ref ak, .ref ae, .ref ad])), (aq, .inr (1, [.ref ap, .int qgone, .int qmet, .int qstill, .int qdone, .ref aqh, .ref aqw, .ref aqs, .ref aqu])), (aqh, .inl (cI, 6, .inl qhour)), (aqw, .inl (cI, 6, .inl qworn)), (aqs, .inl (cI, 5, .inl qsquare)), (aqu, .inl (cI, 5, .inl qunder))]) (As := [.int r26]) (rest := []) hC hP hD hS [10, 11, 12, 13, 14, 1, 2, 3, 4] [0, 5, 6, 7, 8, 9] (c_X1_actByDraw l D cI cC cM aj ajh ajw ajs aju ap apk apq apr jgone_17 jmet_18 jstill_19 jdone_20 jhour_21 jworn_22 jsquare_23 junder_24 psq ppa ppe pwo pkind pwsq pwhr r26 qstill_28 qworn_29 qsquare_30 qunder_31 hb32) (cwV 1 hts gX7_day_X1_actByDraw rfl rfl rfl ⟨rfl, pd_X1_actByDraw⟩ ⟨Nat.le_of_ble_eq_true rfl, Nat.le_of_ble_eq_true rfl⟩) 15 (by decide +kernel) rfl rfl rfl rfl rfl rfl 10 1 rfl rfl rfl rfl hl.1 rfl (Nat.le_of_ble_eq_true rfl) dX7_day_63 ⟨Nat.zero_le _, Nat.zero_le _⟩ (fun H locs hP hD hS => ?_)
                    refine lv_aload_n hx hb dX7_day_66 rfl (lv_at hl 1 rfl) ?_
                    refine va_get (D := D) (ci := 7) (v := .ref aj) (C := RX7) (T := TX7) (N := 9) hx hb hts iX7 hown hK hP 0 rfl rfl 4 (by decide) k_f39 (fun _ h9 => h9) rfl dX7_day_67 ?_
                    refine lv_iconst (v := (1 : Int32)) hx hb dX7_day_70 (by decide) ?_
                    obtain ⟨⟨qgone_33, qmet_34, qstill_35, qdone_36, qhour_37, qworn_38⟩, hb39, hF⟩ := op_bind hF
                    refine zVv (ws' := [(ax, .inr (7, [.ref ay, .ref ar, .ref ap, .ref aq, .ref aj, .ref az, .ref ak, .ref ae, .ref ad])), (ap, .inr (2, [.int psq, .int ppa, .int ppe, .int pwo, .ref apk, .ref apq, .ref apr])), (apk, .inl (cI, 6, .inl pkind)), (apq, .inl (cI, 6, .inl pwsq)), (apr, .inl (cI, 6, .inl pwhr)), (aq, .inr (1, [.ref ap, .int qgone, .int qmet, .int qstill, .int qdone, .ref aqh, .ref aqw, .ref aqs, .ref aqu])), (aqh, .inl (cI, 6, .inl qhour)), (aqw, .inl (cI, 6, .inl qworn)), (aqs, .inl (cI, 5, .inl qsquare)), (aqu, .inl (cI, 5, .inl qunder)), (aj, .inr (1, [.ref ap, .int qgone_33, .int qmet_34, .int qstill_35, .int qdone_36, .ref ajh, .ref ajw, .ref ajs, .ref aju])), (ajh, .inl (cI, 6, .inl qhour_37)), (ajw, .inl (cI, 6, .inl qworn_38)), (ajs, .inl (cI, 5, .inl qsquare_30)), (aju, .inl (cI, 5, .inl qunder_31))]) (wr := [(ax, .inr (7, [.ref ay, .ref ar, .ref ap, .ref aq, .ref aj, .ref az, .ref ak, .ref ae, .ref ad])), (aq, .inr (1, [.ref ap, .int qgone, .int qmet, .int qstill, .int qdone, .ref aqh, .ref aqw, .ref aqs, .ref aqu])), (aqh, .inl (cI, 6, .inl qhour)), (aqw, .inl (cI, 6, .inl qworn)), (aqs, .inl (cI, 5, .inl qsquare)), (aqu, .inl (cI, 5, .inl qunder))]) (As := [.int (1 : Int32)]) (rest := []) hC hP hD hS [10, 11, 12, 13, 14, 1, 2, 3, 4] [0, 5, 6, 7, 8, 9] (c_X1_goOn l D cI cC cM aj ajh ajw ajs aju ap apk apq apr jgone_17 jmet_18 qstill_28 jdone_20 jhour_21 qworn_29 qsquare_30 qunder_31 psq ppa ppe pwo pkind pwsq pwhr (1 : Int32) qgone_33 qmet_34 qstill_35 qdone_36 qhour_37 qworn_38 hb39) (cwV 1 hts gX7_day_X1_goOn rfl rfl rfl ⟨rfl, pd_X1_goOn⟩ ⟨Nat.le_of_ble_eq_true rfl, Nat.le_of_ble_eq_true rfl⟩) 15 (by decide +kernel) rfl rfl rfl rfl rfl rfl 10 1 rfl rfl rfl rfl hl.1 rfl (Nat.le_of_ble_eq_true rfl) dX7_day_71 ⟨Nat.zero_le _, Nat.zero_le _⟩ (fun H locs hP hD hS => ?_)
                    refine lv_iinc (v := (v16 + (1 : Int32))) (lv' := [(4, .int (v16 + (1 : Int32))), (0, .ref ax), (1, .int z0), (2, .int n), (3, .int w)]) hx hb dX7_day_74 hl (k := 0) rfl (by first | rfl | decide) (by decide) rfl (fun ls hl => ?_)
                    refine lv_goto (tgt := 47) hx hb dX7_day_77 (by decide) ?_
                    exact ih47 (v16 + (1 : Int32)) qgone_33 qmet_34 qstill_35 qdone_36 qhour_37 qworn_38 qsquare_30 qunder_31 _ _ hP hD hS _ (lv_sub hl [0, 1, 2, 3, 4] rfl) hF
              refine hL47 _ (fun v16 jgone_17 jmet_18 jstill_19 jdone_20 jhour_21 jworn_22 jsquare_23 junder_24 H locs hP hD hS ls hl hF => ?_) 20000 (0 : Int32) qgone_7 qmet_8 qstill_9 qdone_10 qhour_11 qworn_12 qsquare_13 qunder_14 _ _ hP hD hS _ (lv_sub hl [0, 1, 2, 3, 4] rfl) hF
              refine lv_iload_n hx hb dX7_day_80 rfl (lv_at hl 1 rfl) ?_
              refine lv_if_ne (tgt := 97) hx hb dX7_day_81 (by decide) (fun c40 => ?_) (fun c40 => ?_)
              · have hF := op_neg c40 hF
                refine lv_aload_n hx hb dX7_day_97 rfl (lv_at hl 0 rfl) ?_
                refine va_get (D := D) (ci := 7) (v := .ref aj) (C := RX7) (T := TX7) (N := 9) hx hb hts iX7 hown hK hP 0 rfl rfl 4 (by decide) k_f39 (fun _ h9 => h9) rfl dX7_day_98 ?_
                refine va_get (D := D) (ci := 1) (v := .int jmet_18) (C := RX1) (T := TX1) (N := 9) hx hb hts iX1 hown hK hP 10 rfl rfl 2 (by decide) k_f272 (fun _ h9 => h9) rfl dX7_day_101 ?_
                refine lv_aload_n hx hb dX7_day_104 rfl (lv_at hl 0 rfl) ?_
                refine va_get (D := D) (ci := 7) (v := .ref aq) (C := RX7) (T := TX7) (N := 9) hx hb hts iX7 hown hK hP 0 rfl rfl 3 (by decide) k_f35 (fun _ h9 => h9) rfl dX7_day_105 ?_
                refine va_get (D := D) (ci := 1) (v := .int qmet) (C := RX1) (T := TX1) (N := 9) hx hb hts iX1 hown hK hP 5 rfl rfl 2 (by decide) k_f272 (fun _ h9 => h9) rfl dX7_day_108 ?_
                refine lv_isub hx hb dX7_day_111 ?_
                cases hF
                rw [hQ]
                exact xri hC hP hS dX7_day_112
              · have hF := op_pos c40 hF
                refine lv_aload_n hx hb dX7_day_84 rfl (lv_at hl 0 rfl) ?_
                refine va_get (D := D) (ci := 7) (v := .ref aj) (C := RX7) (T := TX7) (N := 9) hx hb hts iX7 hown hK hP 0 rfl rfl 4 (by decide) k_f39 (fun _ h9 => h9) rfl dX7_day_85 ?_
                refine va_get (D := D) (ci := 1) (v := .int jdone_20) (C := RX1) (T := TX1) (N := 9) hx hb hts iX1 hown hK hP 10 rfl rfl 4 (by decide) k_f269 (fun _ h9 => h9) rfl dX7_day_88 ?_
                obtain ⟨r41, hb42, hF⟩ := op_bind hF
                refine xSr (As := [.int jdone_20]) (rest := []) hC hP hD hS [] (c_J6_bitCount_0f7a4 l D cI cC cM jdone_20 r41 hb42) (va_cwS 1 hts gX7_day_J6_bitCount_0f7a4 rfl rfl rfl pd_J6_bitCount_0f7a4 ⟨Nat.le_of_ble_eq_true rfl, Nat.le_of_ble_eq_true rfl⟩) rfl rfl rfl hl.1 rfl (Nat.le_of_ble_eq_true rfl) dX7_day_91 ⟨Nat.zero_le _, Nat.zero_le _⟩ (fun H locs hP hS => ?_)
                refine lv_goto (tgt := 112) hx hb dX7_day_94 (by decide) ?_
                cases hF
                rw [hQ]
                exact xri hC hP hS dX7_day_112
            · have hF := op_neg c6 hF
              refine lv_iconst (v := (-1 : Int32)) hx hb dX7_day_31 (by decide) ?_
              cases hF
              rw [hQ]
              exact xri hC hP hS dX7_day_32

def f_X7_keep (qgone : Int32) (qmet : Int32) (qstill : Int32) (qdone : Int32) (qhour : (Nat → Int32)) (qworn : (Nat → Int32)) (qsquare : (Nat → Int32)) (qunder : (Nat → Int32)) (kk : Nat) (kV : (Nat → MVt)) : Option (Int32 × Nat × (Nat → MVt)) := (Option.bind (f_X4_isFull 2 (nI kk)) fun r1 => (if r1 = 0 then (if kk < 2 then (some ((nI (kk + 1)), (kk + 1), (pushV2 kk kV (qgone, qmet, qstill, qdone, qhour, qworn, qsquare, qunder)))) else none) else (some ((-3 : Int32), kk, kV))))

def rm_X7_keep : Room := { frames := 3, cells := 0, slots := 0, locals := 65 }

theorem pd_X7_keep : yX7_keep.cls ≠ "java/lang/invoke/MethodHandle" ∧ yX7_keep.cls ≠ "java/lang/invoke/VarHandle" ∧ (parseMethodDescriptor yX7_keep.desc).map (fun d => d.parameters.length) = some 0 := by decide +kernel

set_option maxHeartbeats 4000000 in
set_option maxRecDepth 100000 in
theorem c_X7_keep (l : Launch) (D : va_G) (cI cC cM : ClassId) (ax aq aqh aqw aqs aqu ak akr ay ar ap aj az ae ad : Nat) (qgone : Int32) (qmet : Int32) (qstill : Int32) (qdone : Int32) (qhour : (Nat → Int32)) (qworn : (Nat → Int32)) (qsquare : (Nat → Int32)) (qunder : (Nat → Int32)) (kk : Nat) (ka : (Nat → Nat)) (kah : (Nat → Nat)) (kaw : (Nat → Nat)) (kaS : (Nat → Nat)) (kau : (Nat → Nat)) (kV : (Nat → MVt)) (rr : Int32) (kk' : Nat) (kV' : (Nat → MVt)) (hF : f_X7_keep qgone qmet qstill qdone qhour qworn qsquare qunder kk kV = some (rr, kk', kV')) : CI l D cI cC cM yX7_keep wsX7_keep rm_X7_keep [.ref ax] [(ax, .inr (7, [.ref ay, .ref ar, .ref ap, .ref aq, .ref aj, .ref az, .ref ak, .ref ae, .ref ad])), (aq, .inr (1, [.ref ap, .int qgone, .int qmet, .int qstill, .int qdone, .ref aqh, .ref aqw, .ref aqs, .ref aqu])), (aqh, .inl (cI, 6, .inl qhour)), (aqw, .inl (cI, 6, .inl qworn)), (aqs, .inl (cI, 5, .inl qsquare)), (aqu, .inl (cI, 5, .inl qunder)), (ak, .inr (4, [.ref akr, .int (nI kk)])), (akr, .inl (cM, 2, .inr (.inr (.inr (.inr (mq2 ka)))))), ((ka 0), .inr (1, [.ref ap, .int (kV 0).1, .int (kV 0).2.1, .int (kV 0).2.2.1, .int (kV 0).2.2.2.1, .ref (kah 0), .ref (kaw 0), .ref (kaS 0), .ref (kau 0)])), ((kah 0), .inl (cI, 6, .inl (kV 0).2.2.2.2.1)), ((kaw 0), .inl (cI, 6, .inl (kV 0).2.2.2.2.2.1)), ((kaS 0), .inl (cI, 5, .inl (kV 0).2.2.2.2.2.2.1)), ((kau 0), .inl (cI, 5, .inl (kV 0).2.2.2.2.2.2.2)), ((ka 1), .inr (1, [.ref ap, .int (kV 1).1, .int (kV 1).2.1, .int (kV 1).2.2.1, .int (kV 1).2.2.2.1, .ref (kah 1), .ref (kaw 1), .ref (kaS 1), .ref (kau 1)])), ((kah 1), .inl (cI, 6, .inl (kV 1).2.2.2.2.1)), ((kaw 1), .inl (cI, 6, .inl (kV 1).2.2.2.2.2.1)), ((kaS 1), .inl (cI, 5, .inl (kV 1).2.2.2.2.2.2.1)), ((kau 1), .inl (cI, 5, .inl (kV 1).2.2.2.2.2.2.2))] [(ax, .inr (7, [.ref ay, .ref ar, .ref ap, .ref aq, .ref aj, .ref az, .ref ak, .ref ae, .ref ad])), (aq, .inr (1, [.ref ap, .int qgone, .int qmet, .int qstill, .int qdone, .ref aqh, .ref aqw, .ref aqs, .ref aqu])), (aqh, .inl (cI, 6, .inl qhour)), (aqw, .inl (cI, 6, .inl qworn)), (aqs, .inl (cI, 5, .inl qsquare)), (aqu, .inl (cI, 5, .inl qunder)), (ak, .inr (4, [.ref akr, .int (nI kk')])), (akr, .inl (cM, 2, .inr (.inr (.inr (.inr (mq2 ka)))))), ((ka 0), .inr (1, [.ref ap, .int (kV' 0).1, .int (kV' 0).2.1, .int (kV' 0).2.2.1, .int (kV' 0).2.2.2.1, .ref (kah 0), .ref (kaw 0), .ref (kaS 0), .ref (kau 0)])), ((kah 0), .inl (cI, 6, .inl (kV' 0).2.2.2.2.1)), ((kaw 0), .inl (cI, 6, .inl (kV' 0).2.2.2.2.2.1)), ((kaS 0), .inl (cI, 5, .inl (kV' 0).2.2.2.2.2.2.1)), ((kau 0), .inl (cI, 5, .inl (kV' 0).2.2.2.2.2.2.2)), ((ka 1), .inr (1, [.ref ap, .int (kV' 1).1, .int (kV' 1).2.1, .int (kV' 1).2.2.1, .int (kV' 1).2.2.2.1, .ref (kah 1), .ref (kaw 1), .ref (kaS 1), .ref (kau 1)])), ((kah 1), .inl (cI, 6, .inl (kV' 1).2.2.2.2.1)), ((kaw 1), .inl (cI, 6, .inl (kV' 1).2.2.2.2.2.1)), ((kaS 1), .inl (cI, 5, .inl (kV' 1).2.2.2.2.2.2.1)), ((kau 1), .inl (cI, 5, .inl (kV' 1).2.2.2.2.2.2.2))] rr := by
  refine CI.of (cc := cX7_keep) (nL := 1) (ret := (some .int)) (by decide) rfl (Nat.le_of_ble_eq_true rfl) ?_
  intro p e s m args below meth c A hC hP hD hS ls hl
  obtain ⟨hx, hb, hml, hown, hts, hr, hlk, hG, hA⟩ := id hC
  have hown : s.vm.findClass RX7 = some m.cls := hown
  have hK := hG.1
  have hl : lv_has ls 1 [(0, .ref ax)] := hl
  have k_f51 := hts (.fieldLink RX7 51 "ParasolHours" "kept" "LParasolHours$Shelf;") (List.mem_of_getElem? (i := 1) rfl)
  have k_f35 := hts (.fieldLink RX7 35 "ParasolHours" "now" "LParasolHours$Moment;") (List.mem_of_getElem? (i := 2) rfl)
  have k_f208 := hts (.fieldLink RX7 208 "ParasolHours$Shelf" "size" "I") (List.mem_of_getElem? (i := 3) rfl)
  have iX4 : ∀ w ∈ wsX40, w ∈ wsX7_keep := by decide +kernel
  have iX7 : ∀ w ∈ wsX70, w ∈ wsX7_keep := by decide +kernel
  obtain ⟨Q, hQ⟩ : ∃ Q, Q = MQ below (QI D [(ax, .inr (7, [.ref ay, .ref ar, .ref ap, .ref aq, .ref aj, .ref az, .ref ak, .ref ae, .ref ad])), (aq, .inr (1, [.ref ap, .int qgone, .int qmet, .int qstill, .int qdone, .ref aqh, .ref aqw, .ref aqs, .ref aqu])), (aqh, .inl (cI, 6, .inl qhour)), (aqw, .inl (cI, 6, .inl qworn)), (aqs, .inl (cI, 5, .inl qsquare)), (aqu, .inl (cI, 5, .inl qunder)), (ak, .inr (4, [.ref akr, .int (nI kk')])), (akr, .inl (cM, 2, .inr (.inr (.inr (.inr (mq2 ka)))))), ((ka 0), .inr (1, [.ref ap, .int (kV' 0).1, .int (kV' 0).2.1, .int (kV' 0).2.2.1, .int (kV' 0).2.2.2.1, .ref (kah 0), .ref (kaw 0), .ref (kaS 0), .ref (kau 0)])), ((kah 0), .inl (cI, 6, .inl (kV' 0).2.2.2.2.1)), ((kaw 0), .inl (cI, 6, .inl (kV' 0).2.2.2.2.2.1)), ((kaS 0), .inl (cI, 5, .inl (kV' 0).2.2.2.2.2.2.1)), ((kau 0), .inl (cI, 5, .inl (kV' 0).2.2.2.2.2.2.2)), ((ka 1), .inr (1, [.ref ap, .int (kV' 1).1, .int (kV' 1).2.1, .int (kV' 1).2.2.1, .int (kV' 1).2.2.2.1, .ref (kah 1), .ref (kaw 1), .ref (kaS 1), .ref (kau 1)])), ((kah 1), .inl (cI, 6, .inl (kV' 1).2.2.2.2.1)), ((kaw 1), .inl (cI, 6, .inl (kV' 1).2.2.2.2.2.1)), ((kaS 1), .inl (cI, 5, .inl (kV' 1).2.2.2.2.2.2.1)), ((kau 1), .inl (cI, 5, .inl (kV' 1).2.2.2.2.2.2.2))] rr A) args s 0 0 A := ⟨_, rfl⟩
  rw [← hQ]
  unfold f_X7_keep at hF
  refine lv_aload_n hx hb dX7_keep_0 rfl (lv_at hl 0 rfl) ?_
  refine va_get (D := D) (ci := 7) (v := .ref ak) (C := RX7) (T := TX7) (N := 9) hx hb hts iX7 hown hK hP 0 rfl rfl 6 (by decide) k_f51 (fun _ h9 => h9) rfl dX7_keep_1 ?_
  obtain ⟨r1, hb2, hF⟩ := op_bind hF
  refine xVr (As := []) (rest := []) hC hP hD hS [6, 7] (c_X4_isFull l D cI cC cM ak akr 2 (nI kk) (mq2 ka) r1 hb2) (cwV 0 hts gX7_keep_X4_isFull rfl rfl rfl ⟨rfl, pd_X4_isFull⟩ ⟨Nat.le_of_ble_eq_true rfl, Nat.le_of_ble_eq_true rfl⟩) rfl rfl 6 4 rfl rfl rfl rfl hl.1 rfl (Nat.le_of_ble_eq_true rfl) dX7_keep_4 ⟨Nat.zero_le _, Nat.zero_le _⟩ (fun H locs hP hS => ?_)
  refine lv_if_eq (tgt := 13) hx hb dX7_keep_7 (by decide) (fun c3 => ?_) (fun c3 => ?_)
  · have hF := op_pos c3 hF
    refine lv_aload_n hx hb dX7_keep_13 rfl (lv_at hl 0 rfl) ?_
    refine va_get (D := D) (ci := 7) (v := .ref ak) (C := RX7) (T := TX7) (N := 9) hx hb hts iX7 hown hK hP 0 rfl rfl 6 (by decide) k_f51 (fun _ h9 => h9) rfl dX7_keep_14 ?_
    refine lv_aload_n hx hb dX7_keep_17 rfl (lv_at hl 0 rfl) ?_
    refine va_get (D := D) (ci := 7) (v := .ref aq) (C := RX7) (T := TX7) (N := 9) hx hb hts iX7 hown hK hP 0 rfl rfl 3 (by decide) k_f35 (fun _ h9 => h9) rfl dX7_keep_18 ?_
    obtain ⟨o4, hF⟩ := op_ob hF
    refine zVv (ws' := [(ax, .inr (7, [.ref ay, .ref ar, .ref ap, .ref aq, .ref aj, .ref az, .ref ak, .ref ae, .ref ad])), (aq, .inr (1, [.ref ap, .int qgone, .int qmet, .int qstill, .int qdone, .ref aqh, .ref aqw, .ref aqs, .ref aqu])), (aqh, .inl (cI, 6, .inl qhour)), (aqw, .inl (cI, 6, .inl qworn)), (aqs, .inl (cI, 5, .inl qsquare)), (aqu, .inl (cI, 5, .inl qunder)), (ak, .inr (4, [.ref akr, .int (nI (kk + 1))])), (akr, .inl (cM, 2, .inr (.inr (.inr (.inr (mq2 ka)))))), ((ka 0), .inr (1, [.ref ap, .int ((pushV2 kk kV (qgone, qmet, qstill, qdone, qhour, qworn, qsquare, qunder)) 0).1, .int ((pushV2 kk kV (qgone, qmet, qstill, qdone, qhour, qworn, qsquare, qunder)) 0).2.1, .int ((pushV2 kk kV (qgone, qmet, qstill, qdone, qhour, qworn, qsquare, qunder)) 0).2.2.1, .int ((pushV2 kk kV (qgone, qmet, qstill, qdone, qhour, qworn, qsquare, qunder)) 0).2.2.2.1, .ref (kah 0), .ref (kaw 0), .ref (kaS 0), .ref (kau 0)])), ((kah 0), .inl (cI, 6, .inl ((pushV2 kk kV (qgone, qmet, qstill, qdone, qhour, qworn, qsquare, qunder)) 0).2.2.2.2.1)), ((kaw 0), .inl (cI, 6, .inl ((pushV2 kk kV (qgone, qmet, qstill, qdone, qhour, qworn, qsquare, qunder)) 0).2.2.2.2.2.1)), ((kaS 0), .inl (cI, 5, .inl ((pushV2 kk kV (qgone, qmet, qstill, qdone, qhour, qworn, qsquare, qunder)) 0).2.2.2.2.2.2.1)), ((kau 0), .inl (cI, 5, .inl ((pushV2 kk kV (qgone, qmet, qstill, qdone, qhour, qworn, qsquare, qunder)) 0).2.2.2.2.2.2.2)), ((ka 1), .inr (1, [.ref ap, .int ((pushV2 kk kV (qgone, qmet, qstill, qdone, qhour, qworn, qsquare, qunder)) 1).1, .int ((pushV2 kk kV (qgone, qmet, qstill, qdone, qhour, qworn, qsquare, qunder)) 1).2.1, .int ((pushV2 kk kV (qgone, qmet, qstill, qdone, qhour, qworn, qsquare, qunder)) 1).2.2.1, .int ((pushV2 kk kV (qgone, qmet, qstill, qdone, qhour, qworn, qsquare, qunder)) 1).2.2.2.1, .ref (kah 1), .ref (kaw 1), .ref (kaS 1), .ref (kau 1)])), ((kah 1), .inl (cI, 6, .inl ((pushV2 kk kV (qgone, qmet, qstill, qdone, qhour, qworn, qsquare, qunder)) 1).2.2.2.2.1)), ((kaw 1), .inl (cI, 6, .inl ((pushV2 kk kV (qgone, qmet, qstill, qdone, qhour, qworn, qsquare, qunder)) 1).2.2.2.2.2.1)), ((kaS 1), .inl (cI, 5, .inl ((pushV2 kk kV (qgone, qmet, qstill, qdone, qhour, qworn, qsquare, qunder)) 1).2.2.2.2.2.2.1)), ((kau 1), .inl (cI, 5, .inl ((pushV2 kk kV (qgone, qmet, qstill, qdone, qhour, qworn, qsquare, qunder)) 1).2.2.2.2.2.2.2))]) (wr := [(ax, .inr (7, [.ref ay, .ref ar, .ref ap, .ref aq, .ref aj, .ref az, .ref ak, .ref ae, .ref ad]))]) (As := [.ref aq]) (rest := []) hC hP hD hS [6, 7, 8, 9, 10, 11, 12, 13, 14, 15, 16, 17, 1, 2, 3, 4, 5] [0] (c_push2 l D cI cC cM ak akr ap ka kah kaw kaS kau kV aq aqh aqw aqs aqu ap qgone qmet qstill qdone qhour qworn qsquare qunder kk o4) (cwV 1 hts gX7_keep_X4_push rfl rfl rfl ⟨rfl, pd_X4_push⟩ ⟨Nat.le_of_ble_eq_true rfl, Nat.le_of_ble_eq_true rfl⟩) 18 (by decide +kernel) rfl rfl rfl rfl rfl rfl 6 4 rfl rfl rfl rfl hl.1 rfl (Nat.le_of_ble_eq_true rfl) dX7_keep_21 ⟨Nat.zero_le _, Nat.zero_le _⟩ (fun H locs hP hD hS => ?_)
    refine lv_aload_n hx hb dX7_keep_24 rfl (lv_at hl 0 rfl) ?_
    refine va_get (D := D) (ci := 7) (v := .ref ak) (C := RX7) (T := TX7) (N := 9) hx hb hts iX7 hown hK hP 0 rfl rfl 6 (by decide) k_f51 (fun _ h9 => h9) rfl dX7_keep_25 ?_
    refine va_get (D := D) (ci := 4) (v := .int (nI (kk + 1))) (C := RX4) (T := TX4) (N := 2) hx hb hts iX4 hown hK hP 6 rfl rfl 1 (by decide) k_f208 (fun _ h9 => h9) rfl dX7_keep_28 ?_
    cases hF
    rw [hQ]
    exact xri hC hP hS dX7_keep_31
  · have hF := op_neg c3 hF
    refine lv_bipush (v := (-3 : Int32)) hx hb dX7_keep_10 (by decide) ?_
    cases hF
    rw [hQ]
    exact xri hC hP hS dX7_keep_12

def f_X7_back (qgone : Int32) (qmet : Int32) (qstill : Int32) (qdone : Int32) (qhour : (Nat → Int32)) (qworn : (Nat → Int32)) (qsquare : (Nat → Int32)) (qunder : (Nat → Int32)) (zsize : Int32) (kk : Nat) (kV : (Nat → MVt)) : Option (Int32 × Int32 × Int32 × Int32 × Int32 × (Nat → Int32) × (Nat → Int32) × (Nat → Int32) × (Nat → Int32) × Int32 × Nat) := (Option.bind (f_X4_isEmpty (nI kk)) fun r1 => (if r1 = 0 then (if 0 < kk then (if kk ≤ 2 then (Option.bind (f_X4_clear) fun zsize_6 => (some ((nI (kk - 1)), (cpM (kV (kk - 1)) (qgone, qmet, qstill, qdone, qhour, qworn, qsquare, qunder)).1, (cpM (kV (kk - 1)) (qgone, qmet, qstill, qdone, qhour, qworn, qsquare, qunder)).2.1, (cpM (kV (kk - 1)) (qgone, qmet, qstill, qdone, qhour, qworn, qsquare, qunder)).2.2.1, (cpM (kV (kk - 1)) (qgone, qmet, qstill, qdone, qhour, qworn, qsquare, qunder)).2.2.2.1, (cpM (kV (kk - 1)) (qgone, qmet, qstill, qdone, qhour, qworn, qsquare, qunder)).2.2.2.2.1, (cpM (kV (kk - 1)) (qgone, qmet, qstill, qdone, qhour, qworn, qsquare, qunder)).2.2.2.2.2.1, (cpM (kV (kk - 1)) (qgone, qmet, qstill, qdone, qhour, qworn, qsquare, qunder)).2.2.2.2.2.2.1, (cpM (kV (kk - 1)) (qgone, qmet, qstill, qdone, qhour, qworn, qsquare, qunder)).2.2.2.2.2.2.2, zsize_6, (kk - 1)))) else none) else none) else (some ((-2 : Int32), qgone, qmet, qstill, qdone, qhour, qworn, qsquare, qunder, zsize, kk))))

def rm_X7_back : Room := { frames := 3, cells := 0, slots := 0, locals := 65 }

theorem pd_X7_back : yX7_back.cls ≠ "java/lang/invoke/MethodHandle" ∧ yX7_back.cls ≠ "java/lang/invoke/VarHandle" ∧ (parseMethodDescriptor yX7_back.desc).map (fun d => d.parameters.length) = some 0 := by decide +kernel

set_option maxHeartbeats 4000000 in
set_option maxRecDepth 100000 in
theorem c_X7_back (l : Launch) (D : va_G) (cI cC cM : ClassId) (ax aq aqh aqw aqs aqu az ak akr ay ar ap aj ae ad azr : Nat) (qgone : Int32) (qmet : Int32) (qstill : Int32) (qdone : Int32) (qhour : (Nat → Int32)) (qworn : (Nat → Int32)) (qsquare : (Nat → Int32)) (qunder : (Nat → Int32)) (zsize : Int32) (kk : Nat) (ka : (Nat → Nat)) (kah : (Nat → Nat)) (kaw : (Nat → Nat)) (kaS : (Nat → Nat)) (kau : (Nat → Nat)) (kV : (Nat → MVt)) (rr : Int32) (qgone' : Int32) (qmet' : Int32) (qstill' : Int32) (qdone' : Int32) (qhour' : (Nat → Int32)) (qworn' : (Nat → Int32)) (qsquare' : (Nat → Int32)) (qunder' : (Nat → Int32)) (zsize' : Int32) (kk' : Nat) (hF : f_X7_back qgone qmet qstill qdone qhour qworn qsquare qunder zsize kk kV = some (rr, qgone', qmet', qstill', qdone', qhour', qworn', qsquare', qunder', zsize', kk')) : CI l D cI cC cM yX7_back wsX7_back rm_X7_back [.ref ax] [(ax, .inr (7, [.ref ay, .ref ar, .ref ap, .ref aq, .ref aj, .ref az, .ref ak, .ref ae, .ref ad])), (aq, .inr (1, [.ref ap, .int qgone, .int qmet, .int qstill, .int qdone, .ref aqh, .ref aqw, .ref aqs, .ref aqu])), (aqh, .inl (cI, 6, .inl qhour)), (aqw, .inl (cI, 6, .inl qworn)), (aqs, .inl (cI, 5, .inl qsquare)), (aqu, .inl (cI, 5, .inl qunder)), (az, .inr (4, [.ref azr, .int zsize])), (ak, .inr (4, [.ref akr, .int (nI kk)])), (akr, .inl (cM, 2, .inr (.inr (.inr (.inr (mq2 ka)))))), ((ka 0), .inr (1, [.ref ap, .int (kV 0).1, .int (kV 0).2.1, .int (kV 0).2.2.1, .int (kV 0).2.2.2.1, .ref (kah 0), .ref (kaw 0), .ref (kaS 0), .ref (kau 0)])), ((kah 0), .inl (cI, 6, .inl (kV 0).2.2.2.2.1)), ((kaw 0), .inl (cI, 6, .inl (kV 0).2.2.2.2.2.1)), ((kaS 0), .inl (cI, 5, .inl (kV 0).2.2.2.2.2.2.1)), ((kau 0), .inl (cI, 5, .inl (kV 0).2.2.2.2.2.2.2)), ((ka 1), .inr (1, [.ref ap, .int (kV 1).1, .int (kV 1).2.1, .int (kV 1).2.2.1, .int (kV 1).2.2.2.1, .ref (kah 1), .ref (kaw 1), .ref (kaS 1), .ref (kau 1)])), ((kah 1), .inl (cI, 6, .inl (kV 1).2.2.2.2.1)), ((kaw 1), .inl (cI, 6, .inl (kV 1).2.2.2.2.2.1)), ((kaS 1), .inl (cI, 5, .inl (kV 1).2.2.2.2.2.2.1)), ((kau 1), .inl (cI, 5, .inl (kV 1).2.2.2.2.2.2.2))] [(ax, .inr (7, [.ref ay, .ref ar, .ref ap, .ref aq, .ref aj, .ref az, .ref ak, .ref ae, .ref ad])), (aq, .inr (1, [.ref ap, .int qgone', .int qmet', .int qstill', .int qdone', .ref aqh, .ref aqw, .ref aqs, .ref aqu])), (aqh, .inl (cI, 6, .inl qhour')), (aqw, .inl (cI, 6, .inl qworn')), (aqs, .inl (cI, 5, .inl qsquare')), (aqu, .inl (cI, 5, .inl qunder')), (az, .inr (4, [.ref azr, .int zsize'])), (ak, .inr (4, [.ref akr, .int (nI kk')])), (akr, .inl (cM, 2, .inr (.inr (.inr (.inr (mq2 ka)))))), ((ka 0), .inr (1, [.ref ap, .int (kV 0).1, .int (kV 0).2.1, .int (kV 0).2.2.1, .int (kV 0).2.2.2.1, .ref (kah 0), .ref (kaw 0), .ref (kaS 0), .ref (kau 0)])), ((kah 0), .inl (cI, 6, .inl (kV 0).2.2.2.2.1)), ((kaw 0), .inl (cI, 6, .inl (kV 0).2.2.2.2.2.1)), ((kaS 0), .inl (cI, 5, .inl (kV 0).2.2.2.2.2.2.1)), ((kau 0), .inl (cI, 5, .inl (kV 0).2.2.2.2.2.2.2)), ((ka 1), .inr (1, [.ref ap, .int (kV 1).1, .int (kV 1).2.1, .int (kV 1).2.2.1, .int (kV 1).2.2.2.1, .ref (kah 1), .ref (kaw 1), .ref (kaS 1), .ref (kau 1)])), ((kah 1), .inl (cI, 6, .inl (kV 1).2.2.2.2.1)), ((kaw 1), .inl (cI, 6, .inl (kV 1).2.2.2.2.2.1)), ((kaS 1), .inl (cI, 5, .inl (kV 1).2.2.2.2.2.2.1)), ((kau 1), .inl (cI, 5, .inl (kV 1).2.2.2.2.2.2.2))] rr := by
  refine CI.of (cc := cX7_back) (nL := 1) (ret := (some .int)) (by decide) rfl (Nat.le_of_ble_eq_true rfl) ?_
  intro p e s m args below meth c A hC hP hD hS ls hl
  obtain ⟨hx, hb, hml, hown, hts, hr, hlk, hG, hA⟩ := id hC
  have hown : s.vm.findClass RX7 = some m.cls := hown
  have hK := hG.1
  have hl : lv_has ls 1 [(0, .ref ax)] := hl
  have k_f51 := hts (.fieldLink RX7 51 "ParasolHours" "kept" "LParasolHours$Shelf;") (List.mem_of_getElem? (i := 1) rfl)
  have k_f35 := hts (.fieldLink RX7 35 "ParasolHours" "now" "LParasolHours$Moment;") (List.mem_of_getElem? (i := 2) rfl)
  have k_f47 := hts (.fieldLink RX7 47 "ParasolHours" "past" "LParasolHours$Shelf;") (List.mem_of_getElem? (i := 3) rfl)
  have k_f208 := hts (.fieldLink RX7 208 "ParasolHours$Shelf" "size" "I") (List.mem_of_getElem? (i := 4) rfl)
  have iX4 : ∀ w ∈ wsX40, w ∈ wsX7_back := by decide +kernel
  have iX7 : ∀ w ∈ wsX70, w ∈ wsX7_back := by decide +kernel
  obtain ⟨Q, hQ⟩ : ∃ Q, Q = MQ below (QI D [(ax, .inr (7, [.ref ay, .ref ar, .ref ap, .ref aq, .ref aj, .ref az, .ref ak, .ref ae, .ref ad])), (aq, .inr (1, [.ref ap, .int qgone', .int qmet', .int qstill', .int qdone', .ref aqh, .ref aqw, .ref aqs, .ref aqu])), (aqh, .inl (cI, 6, .inl qhour')), (aqw, .inl (cI, 6, .inl qworn')), (aqs, .inl (cI, 5, .inl qsquare')), (aqu, .inl (cI, 5, .inl qunder')), (az, .inr (4, [.ref azr, .int zsize'])), (ak, .inr (4, [.ref akr, .int (nI kk')])), (akr, .inl (cM, 2, .inr (.inr (.inr (.inr (mq2 ka)))))), ((ka 0), .inr (1, [.ref ap, .int (kV 0).1, .int (kV 0).2.1, .int (kV 0).2.2.1, .int (kV 0).2.2.2.1, .ref (kah 0), .ref (kaw 0), .ref (kaS 0), .ref (kau 0)])), ((kah 0), .inl (cI, 6, .inl (kV 0).2.2.2.2.1)), ((kaw 0), .inl (cI, 6, .inl (kV 0).2.2.2.2.2.1)), ((kaS 0), .inl (cI, 5, .inl (kV 0).2.2.2.2.2.2.1)), ((kau 0), .inl (cI, 5, .inl (kV 0).2.2.2.2.2.2.2)), ((ka 1), .inr (1, [.ref ap, .int (kV 1).1, .int (kV 1).2.1, .int (kV 1).2.2.1, .int (kV 1).2.2.2.1, .ref (kah 1), .ref (kaw 1), .ref (kaS 1), .ref (kau 1)])), ((kah 1), .inl (cI, 6, .inl (kV 1).2.2.2.2.1)), ((kaw 1), .inl (cI, 6, .inl (kV 1).2.2.2.2.2.1)), ((kaS 1), .inl (cI, 5, .inl (kV 1).2.2.2.2.2.2.1)), ((kau 1), .inl (cI, 5, .inl (kV 1).2.2.2.2.2.2.2))] rr A) args s 0 0 A := ⟨_, rfl⟩
  rw [← hQ]
  unfold f_X7_back at hF
  refine lv_aload_n hx hb dX7_back_0 rfl (lv_at hl 0 rfl) ?_
  refine va_get (D := D) (ci := 7) (v := .ref ak) (C := RX7) (T := TX7) (N := 9) hx hb hts iX7 hown hK hP 0 rfl rfl 6 (by decide) k_f51 (fun _ h9 => h9) rfl dX7_back_1 ?_
  obtain ⟨r1, hb2, hF⟩ := op_bind hF
  refine xVr (As := []) (rest := []) hC hP hD hS [7] (c_X4_isEmpty l D cI cC cM ak akr (nI kk) r1 hb2) (cwV 0 hts gX7_back_X4_isEmpty rfl rfl rfl ⟨rfl, pd_X4_isEmpty⟩ ⟨Nat.le_of_ble_eq_true rfl, Nat.le_of_ble_eq_true rfl⟩) rfl rfl 7 4 rfl rfl rfl rfl hl.1 rfl (Nat.le_of_ble_eq_true rfl) dX7_back_4 ⟨Nat.zero_le _, Nat.zero_le _⟩ (fun H locs hP hS => ?_)
  refine lv_if_eq (tgt := 13) hx hb dX7_back_7 (by decide) (fun c3 => ?_) (fun c3 => ?_)
  · have hF := op_pos c3 hF
    refine lv_aload_n hx hb dX7_back_13 rfl (lv_at hl 0 rfl) ?_
    refine va_get (D := D) (ci := 7) (v := .ref ak) (C := RX7) (T := TX7) (N := 9) hx hb hts iX7 hown hK hP 0 rfl rfl 6 (by decide) k_f51 (fun _ h9 => h9) rfl dX7_back_14 ?_
    refine lv_aload_n hx hb dX7_back_17 rfl (lv_at hl 0 rfl) ?_
    refine va_get (D := D) (ci := 7) (v := .ref aq) (C := RX7) (T := TX7) (N := 9) hx hb hts iX7 hown hK hP 0 rfl rfl 3 (by decide) k_f35 (fun _ h9 => h9) rfl dX7_back_18 ?_
    obtain ⟨o4, hF⟩ := op_ob hF
    obtain ⟨o5, hF⟩ := op_ob hF
    refine zVv (ws' := [(ax, .inr (7, [.ref ay, .ref ar, .ref ap, .ref aq, .ref aj, .ref az, .ref ak, .ref ae, .ref ad])), (aq, .inr (1, [.ref ap, .int (cpM (kV (kk - 1)) (qgone, qmet, qstill, qdone, qhour, qworn, qsquare, qunder)).1, .int (cpM (kV (kk - 1)) (qgone, qmet, qstill, qdone, qhour, qworn, qsquare, qunder)).2.1, .int (cpM (kV (kk - 1)) (qgone, qmet, qstill, qdone, qhour, qworn, qsquare, qunder)).2.2.1, .int (cpM (kV (kk - 1)) (qgone, qmet, qstill, qdone, qhour, qworn, qsquare, qunder)).2.2.2.1, .ref aqh, .ref aqw, .ref aqs, .ref aqu])), (aqh, .inl (cI, 6, .inl (cpM (kV (kk - 1)) (qgone, qmet, qstill, qdone, qhour, qworn, qsquare, qunder)).2.2.2.2.1)), (aqw, .inl (cI, 6, .inl (cpM (kV (kk - 1)) (qgone, qmet, qstill, qdone, qhour, qworn, qsquare, qunder)).2.2.2.2.2.1)), (aqs, .inl (cI, 5, .inl (cpM (kV (kk - 1)) (qgone, qmet, qstill, qdone, qhour, qworn, qsquare, qunder)).2.2.2.2.2.2.1)), (aqu, .inl (cI, 5, .inl (cpM (kV (kk - 1)) (qgone, qmet, qstill, qdone, qhour, qworn, qsquare, qunder)).2.2.2.2.2.2.2)), (az, .inr (4, [.ref azr, .int zsize])), (ak, .inr (4, [.ref akr, .int (nI (kk - 1))])), (akr, .inl (cM, 2, .inr (.inr (.inr (.inr (mq2 ka)))))), ((ka 0), .inr (1, [.ref ap, .int (kV 0).1, .int (kV 0).2.1, .int (kV 0).2.2.1, .int (kV 0).2.2.2.1, .ref (kah 0), .ref (kaw 0), .ref (kaS 0), .ref (kau 0)])), ((kah 0), .inl (cI, 6, .inl (kV 0).2.2.2.2.1)), ((kaw 0), .inl (cI, 6, .inl (kV 0).2.2.2.2.2.1)), ((kaS 0), .inl (cI, 5, .inl (kV 0).2.2.2.2.2.2.1)), ((kau 0), .inl (cI, 5, .inl (kV 0).2.2.2.2.2.2.2)), ((ka 1), .inr (1, [.ref ap, .int (kV 1).1, .int (kV 1).2.1, .int (kV 1).2.2.1, .int (kV 1).2.2.2.1, .ref (kah 1), .ref (kaw 1), .ref (kaS 1), .ref (kau 1)])), ((kah 1), .inl (cI, 6, .inl (kV 1).2.2.2.2.1)), ((kaw 1), .inl (cI, 6, .inl (kV 1).2.2.2.2.2.1)), ((kaS 1), .inl (cI, 5, .inl (kV 1).2.2.2.2.2.2.1)), ((kau 1), .inl (cI, 5, .inl (kV 1).2.2.2.2.2.2.2))]) (wr := [(ax, .inr (7, [.ref ay, .ref ar, .ref ap, .ref aq, .ref aj, .ref az, .ref ak, .ref ae, .ref ad])), (az, .inr (4, [.ref azr, .int zsize]))]) (As := [.ref aq]) (rest := []) hC hP hD hS [7, 8, 9, 10, 11, 12, 13, 14, 15, 16, 17, 18, 1, 2, 3, 4, 5] [0, 6] (c_pop2x l D cI cC cM ak akr ap ka kah kaw kaS kau kV aq aqh aqw aqs aqu ap qgone qmet qstill qdone qhour qworn qsquare qunder kk o4 o5) (cwV 1 hts gX7_back_X4_popInto rfl rfl rfl ⟨rfl, pd_X4_popInto⟩ ⟨Nat.le_of_ble_eq_true rfl, Nat.le_of_ble_eq_true rfl⟩) 19 (by decide +kernel) rfl rfl rfl rfl rfl rfl 7 4 rfl rfl rfl rfl hl.1 rfl (Nat.le_of_ble_eq_true rfl) dX7_back_21 ⟨Nat.zero_le _, Nat.zero_le _⟩ (fun H locs hP hD hS => ?_)
    refine lv_aload_n hx hb dX7_back_24 rfl (lv_at hl 0 rfl) ?_
    refine va_get (D := D) (ci := 7) (v := .ref az) (C := RX7) (T := TX7) (N := 9) hx hb hts iX7 hown hK hP 0 rfl rfl 5 (by decide) k_f47 (fun _ h9 => h9) rfl dX7_back_25 ?_
    obtain ⟨zsize_6, hb7, hF⟩ := op_bind hF
    refine zVv (ws' := [(ax, .inr (7, [.ref ay, .ref ar, .ref ap, .ref aq, .ref aj, .ref az, .ref ak, .ref ae, .ref ad])), (aq, .inr (1, [.ref ap, .int (cpM (kV (kk - 1)) (qgone, qmet, qstill, qdone, qhour, qworn, qsquare, qunder)).1, .int (cpM (kV (kk - 1)) (qgone, qmet, qstill, qdone, qhour, qworn, qsquare, qunder)).2.1, .int (cpM (kV (kk - 1)) (qgone, qmet, qstill, qdone, qhour, qworn, qsquare, qunder)).2.2.1, .int (cpM (kV (kk - 1)) (qgone, qmet, qstill, qdone, qhour, qworn, qsquare, qunder)).2.2.2.1, .ref aqh, .ref aqw, .ref aqs, .ref aqu])), (aqh, .inl (cI, 6, .inl (cpM (kV (kk - 1)) (qgone, qmet, qstill, qdone, qhour, qworn, qsquare, qunder)).2.2.2.2.1)), (aqw, .inl (cI, 6, .inl (cpM (kV (kk - 1)) (qgone, qmet, qstill, qdone, qhour, qworn, qsquare, qunder)).2.2.2.2.2.1)), (aqs, .inl (cI, 5, .inl (cpM (kV (kk - 1)) (qgone, qmet, qstill, qdone, qhour, qworn, qsquare, qunder)).2.2.2.2.2.2.1)), (aqu, .inl (cI, 5, .inl (cpM (kV (kk - 1)) (qgone, qmet, qstill, qdone, qhour, qworn, qsquare, qunder)).2.2.2.2.2.2.2)), (az, .inr (4, [.ref azr, .int zsize_6])), (ak, .inr (4, [.ref akr, .int (nI (kk - 1))])), (akr, .inl (cM, 2, .inr (.inr (.inr (.inr (mq2 ka)))))), ((ka 0), .inr (1, [.ref ap, .int (kV 0).1, .int (kV 0).2.1, .int (kV 0).2.2.1, .int (kV 0).2.2.2.1, .ref (kah 0), .ref (kaw 0), .ref (kaS 0), .ref (kau 0)])), ((kah 0), .inl (cI, 6, .inl (kV 0).2.2.2.2.1)), ((kaw 0), .inl (cI, 6, .inl (kV 0).2.2.2.2.2.1)), ((kaS 0), .inl (cI, 5, .inl (kV 0).2.2.2.2.2.2.1)), ((kau 0), .inl (cI, 5, .inl (kV 0).2.2.2.2.2.2.2)), ((ka 1), .inr (1, [.ref ap, .int (kV 1).1, .int (kV 1).2.1, .int (kV 1).2.2.1, .int (kV 1).2.2.2.1, .ref (kah 1), .ref (kaw 1), .ref (kaS 1), .ref (kau 1)])), ((kah 1), .inl (cI, 6, .inl (kV 1).2.2.2.2.1)), ((kaw 1), .inl (cI, 6, .inl (kV 1).2.2.2.2.2.1)), ((kaS 1), .inl (cI, 5, .inl (kV 1).2.2.2.2.2.2.1)), ((kau 1), .inl (cI, 5, .inl (kV 1).2.2.2.2.2.2.2))]) (wr := [(ax, .inr (7, [.ref ay, .ref ar, .ref ap, .ref aq, .ref aj, .ref az, .ref ak, .ref ae, .ref ad])), (aq, .inr (1, [.ref ap, .int (cpM (kV (kk - 1)) (qgone, qmet, qstill, qdone, qhour, qworn, qsquare, qunder)).1, .int (cpM (kV (kk - 1)) (qgone, qmet, qstill, qdone, qhour, qworn, qsquare, qunder)).2.1, .int (cpM (kV (kk - 1)) (qgone, qmet, qstill, qdone, qhour, qworn, qsquare, qunder)).2.2.1, .int (cpM (kV (kk - 1)) (qgone, qmet, qstill, qdone, qhour, qworn, qsquare, qunder)).2.2.2.1, .ref aqh, .ref aqw, .ref aqs, .ref aqu])), (aqh, .inl (cI, 6, .inl (cpM (kV (kk - 1)) (qgone, qmet, qstill, qdone, qhour, qworn, qsquare, qunder)).2.2.2.2.1)), (aqw, .inl (cI, 6, .inl (cpM (kV (kk - 1)) (qgone, qmet, qstill, qdone, qhour, qworn, qsquare, qunder)).2.2.2.2.2.1)), (aqs, .inl (cI, 5, .inl (cpM (kV (kk - 1)) (qgone, qmet, qstill, qdone, qhour, qworn, qsquare, qunder)).2.2.2.2.2.2.1)), (aqu, .inl (cI, 5, .inl (cpM (kV (kk - 1)) (qgone, qmet, qstill, qdone, qhour, qworn, qsquare, qunder)).2.2.2.2.2.2.2)), (ak, .inr (4, [.ref akr, .int (nI (kk - 1))])), (akr, .inl (cM, 2, .inr (.inr (.inr (.inr (mq2 ka)))))), ((ka 0), .inr (1, [.ref ap, .int (kV 0).1, .int (kV 0).2.1, .int (kV 0).2.2.1, .int (kV 0).2.2.2.1, .ref (kah 0), .ref (kaw 0), .ref (kaS 0), .ref (kau 0)])), ((kah 0), .inl (cI, 6, .inl (kV 0).2.2.2.2.1)), ((kaw 0), .inl (cI, 6, .inl (kV 0).2.2.2.2.2.1)), ((kaS 0), .inl (cI, 5, .inl (kV 0).2.2.2.2.2.2.1)), ((kau 0), .inl (cI, 5, .inl (kV 0).2.2.2.2.2.2.2)), ((ka 1), .inr (1, [.ref ap, .int (kV 1).1, .int (kV 1).2.1, .int (kV 1).2.2.1, .int (kV 1).2.2.2.1, .ref (kah 1), .ref (kaw 1), .ref (kaS 1), .ref (kau 1)])), ((kah 1), .inl (cI, 6, .inl (kV 1).2.2.2.2.1)), ((kaw 1), .inl (cI, 6, .inl (kV 1).2.2.2.2.2.1)), ((kaS 1), .inl (cI, 5, .inl (kV 1).2.2.2.2.2.2.1)), ((kau 1), .inl (cI, 5, .inl (kV 1).2.2.2.2.2.2.2))]) (As := []) (rest := []) hC hP hD hS [6] [0, 1, 2, 3, 4, 5, 7, 8, 9, 10, 11, 12, 13, 14, 15, 16, 17, 18] (c_X4_clear l D cI cC cM az azr zsize zsize_6 hb7) (cwV 0 hts gX7_back_X4_clear rfl rfl rfl ⟨rfl, pd_X4_clear⟩ ⟨Nat.le_of_ble_eq_true rfl, Nat.le_of_ble_eq_true rfl⟩) 19 (by decide +kernel) rfl rfl rfl rfl rfl rfl 6 4 rfl rfl rfl rfl hl.1 rfl (Nat.le_of_ble_eq_true rfl) dX7_back_28 ⟨Nat.zero_le _, Nat.zero_le _⟩ (fun H locs hP hD hS => ?_)
    refine lv_aload_n hx hb dX7_back_31 rfl (lv_at hl 0 rfl) ?_
    refine va_get (D := D) (ci := 7) (v := .ref ak) (C := RX7) (T := TX7) (N := 9) hx hb hts iX7 hown hK hP 0 rfl rfl 6 (by decide) k_f51 (fun _ h9 => h9) rfl dX7_back_32 ?_
    refine va_get (D := D) (ci := 4) (v := .int (nI (kk - 1))) (C := RX4) (T := TX4) (N := 2) hx hb hts iX4 hown hK hP 7 rfl rfl 1 (by decide) k_f208 (fun _ h9 => h9) rfl dX7_back_35 ?_
    cases hF
    rw [hQ]
    exact xri hC hP hS dX7_back_38
  · have hF := op_neg c3 hF
    refine lv_bipush (v := (-2 : Int32)) hx hb dX7_back_10 (by decide) ?_
    cases hF
    rw [hQ]
    exact xri hC hP hS dX7_back_12

def f_X7_count (psq : Int32) (ppa : Int32) (ppe : Int32) (pwo : Int32) (qgone : Int32) (qmet : Int32) (qstill : Int32) (qdone : Int32) (qunder : (Nat → Int32)) (esize : Int32) (ylen : Int32) (zsize : Int32) (ksize : Int32) (i : Int32) : Option Int32 := (if i = (0 : Int32) then (some psq) else (if i = (1 : Int32) then (some ppa) else (if i = (2 : Int32) then (some ppe) else (if i = (3 : Int32) then (some pwo) else (if i = (4 : Int32) then (some qgone) else (if i = (5 : Int32) then (Option.bind (f_J6_bitCount_0f7a4 qdone) fun r7 => (some r7)) else (if i = (6 : Int32) then (some qmet) else (if i = (7 : Int32) then (Option.bind (f_J6_bitCount_0f7a4 qstill) fun r11 => (some r11)) else (if i = (8 : Int32) then (Option.bind (f_X1_parasolsInStand qunder ppa ppe) fun r14 => (some r14)) else (if i = (9 : Int32) then (some esize) else (if i = (10 : Int32) then (some zsize) else (if i = (11 : Int32) then (some ksize) else (if i = (12 : Int32) then (some ylen) else (some (-1 : Int32)))))))))))))))

def rm_X7_count : Room := { frames := 5, cells := 0, slots := 0, locals := 108 }

theorem pd_X7_count : yX7_count.cls ≠ "java/lang/invoke/MethodHandle" ∧ yX7_count.cls ≠ "java/lang/invoke/VarHandle" ∧ (parseMethodDescriptor yX7_count.desc).map (fun d => d.parameters.length) = some 1 := by decide +kernel

set_option maxHeartbeats 4000000 in
set_option maxRecDepth 100000 in
theorem c_X7_count (l : Launch) (D : va_G) (cI cC cM : ClassId) (ax ap apk apq apr aq aqh aqw aqs aqu ae aeh aeb ay ayl az ak ar aj ad azr akr : Nat) (psq : Int32) (ppa : Int32) (ppe : Int32) (pwo : Int32) (pkind : (Nat → Int32)) (pwsq : (Nat → Int32)) (pwhr : (Nat → Int32)) (qgone : Int32) (qmet : Int32) (qstill : Int32) (qdone : Int32) (qhour : (Nat → Int32)) (qworn : (Nat → Int32)) (qsquare : (Nat → Int32)) (qunder : (Nat → Int32)) (esize : Int32) (ehour : (Nat → Int32)) (ebeh : (Nat → Int32)) (ylen : Int32) (ylet : (Nat → Int32)) (zsize : Int32) (ksize : Int32) (i : Int32) (rr : Int32) (hF : f_X7_count psq ppa ppe pwo qgone qmet qstill qdone qunder esize ylen zsize ksize i = some rr) : CI l D cI cC cM yX7_count wsX7_count rm_X7_count [.ref ax, .int i] [(ax, .inr (7, [.ref ay, .ref ar, .ref ap, .ref aq, .ref aj, .ref az, .ref ak, .ref ae, .ref ad])), (ap, .inr (2, [.int psq, .int ppa, .int ppe, .int pwo, .ref apk, .ref apq, .ref apr])), (apk, .inl (cI, 6, .inl pkind)), (apq, .inl (cI, 6, .inl pwsq)), (apr, .inl (cI, 6, .inl pwhr)), (aq, .inr (1, [.ref ap, .int qgone, .int qmet, .int qstill, .int qdone, .ref aqh, .ref aqw, .ref aqs, .ref aqu])), (aqh, .inl (cI, 6, .inl qhour)), (aqw, .inl (cI, 6, .inl qworn)), (aqs, .inl (cI, 5, .inl qsquare)), (aqu, .inl (cI, 5, .inl qunder)), (ae, .inr (5, [.ref aeh, .ref aeb, .int esize])), (aeh, .inl (cI, 6, .inl ehour)), (aeb, .inl (cI, 6, .inl ebeh)), (ay, .inr (6, [.ref ayl, .int ylen])), (ayl, .inl (cC, 200, .inl ylet)), (az, .inr (4, [.ref azr, .int zsize])), (ak, .inr (4, [.ref akr, .int ksize]))] [(ax, .inr (7, [.ref ay, .ref ar, .ref ap, .ref aq, .ref aj, .ref az, .ref ak, .ref ae, .ref ad])), (ap, .inr (2, [.int psq, .int ppa, .int ppe, .int pwo, .ref apk, .ref apq, .ref apr])), (apk, .inl (cI, 6, .inl pkind)), (apq, .inl (cI, 6, .inl pwsq)), (apr, .inl (cI, 6, .inl pwhr)), (aq, .inr (1, [.ref ap, .int qgone, .int qmet, .int qstill, .int qdone, .ref aqh, .ref aqw, .ref aqs, .ref aqu])), (aqh, .inl (cI, 6, .inl qhour)), (aqw, .inl (cI, 6, .inl qworn)), (aqs, .inl (cI, 5, .inl qsquare)), (aqu, .inl (cI, 5, .inl qunder)), (ae, .inr (5, [.ref aeh, .ref aeb, .int esize])), (aeh, .inl (cI, 6, .inl ehour)), (aeb, .inl (cI, 6, .inl ebeh)), (ay, .inr (6, [.ref ayl, .int ylen])), (ayl, .inl (cC, 200, .inl ylet)), (az, .inr (4, [.ref azr, .int zsize])), (ak, .inr (4, [.ref akr, .int ksize]))] rr := by
  refine CI.of (cc := cX7_count) (nL := 2) (ret := (some .int)) (by decide) rfl (Nat.le_of_ble_eq_true rfl) ?_
  intro p e s m args below meth c A hC hP hD hS ls hl
  obtain ⟨hx, hb, hml, hown, hts, hr, hlk, hG, hA⟩ := id hC
  have hown : s.vm.findClass RX7 = some m.cls := hown
  have hK := hG.1
  have hl : lv_has ls 2 [(0, .ref ax), (1, .int i)] := hl
  have k_f26 := hts (.fieldLink RX7 26 "ParasolHours" "plan" "LParasolHours$Plan;") (List.mem_of_getElem? (i := 1) rfl)
  have k_f277 := hts (.fieldLink RX7 277 "ParasolHours$Plan" "squares" "I") (List.mem_of_getElem? (i := 2) rfl)
  have k_f102 := hts (.fieldLink RX7 102 "ParasolHours$Plan" "parasols" "I") (List.mem_of_getElem? (i := 3) rfl)
  have k_f105 := hts (.fieldLink RX7 105 "ParasolHours$Plan" "persons" "I") (List.mem_of_getElem? (i := 4) rfl)
  have k_f280 := hts (.fieldLink RX7 280 "ParasolHours$Plan" "works" "I") (List.mem_of_getElem? (i := 5) rfl)
  have k_f35 := hts (.fieldLink RX7 35 "ParasolHours" "now" "LParasolHours$Moment;") (List.mem_of_getElem? (i := 6) rfl)
  have k_f199 := hts (.fieldLink RX7 199 "ParasolHours$Moment" "gone" "I") (List.mem_of_getElem? (i := 7) rfl)
  have k_f269 := hts (.fieldLink RX7 269 "ParasolHours$Moment" "doneBits" "I") (List.mem_of_getElem? (i := 8) rfl)
  have k_f272 := hts (.fieldLink RX7 272 "ParasolHours$Moment" "met" "I") (List.mem_of_getElem? (i := 9) rfl)
  have k_f240 := hts (.fieldLink RX7 240 "ParasolHours$Moment" "stillBits" "I") (List.mem_of_getElem? (i := 10) rfl)
  have k_f57 := hts (.fieldLink RX7 57 "ParasolHours" "seen" "LParasolHours$Sightings;") (List.mem_of_getElem? (i := 11) rfl)
  have k_f250 := hts (.fieldLink RX7 250 "ParasolHours$Sightings" "size" "I") (List.mem_of_getElem? (i := 12) rfl)
  have k_f47 := hts (.fieldLink RX7 47 "ParasolHours" "past" "LParasolHours$Shelf;") (List.mem_of_getElem? (i := 13) rfl)
  have k_f208 := hts (.fieldLink RX7 208 "ParasolHours$Shelf" "size" "I") (List.mem_of_getElem? (i := 14) rfl)
  have k_f51 := hts (.fieldLink RX7 51 "ParasolHours" "kept" "LParasolHours$Shelf;") (List.mem_of_getElem? (i := 15) rfl)
  have k_f10 := hts (.fieldLink RX7 10 "ParasolHours" "text" "LParasolHours$Text;") (List.mem_of_getElem? (i := 16) rfl)
  have k_f98 := hts (.fieldLink RX7 98 "ParasolHours$Text" "length" "I") (List.mem_of_getElem? (i := 17) rfl)
  have iX1 : ∀ w ∈ wsX10, w ∈ wsX7_count := by decide +kernel
  have iX2 : ∀ w ∈ wsX20, w ∈ wsX7_count := by decide +kernel
  have iX4 : ∀ w ∈ wsX40, w ∈ wsX7_count := by decide +kernel
  have iX5 : ∀ w ∈ wsX50, w ∈ wsX7_count := by decide +kernel
  have iX6 : ∀ w ∈ wsX60, w ∈ wsX7_count := by decide +kernel
  have iX7 : ∀ w ∈ wsX70, w ∈ wsX7_count := by decide +kernel
  obtain ⟨Q, hQ⟩ : ∃ Q, Q = MQ below (QI D [(ax, .inr (7, [.ref ay, .ref ar, .ref ap, .ref aq, .ref aj, .ref az, .ref ak, .ref ae, .ref ad])), (ap, .inr (2, [.int psq, .int ppa, .int ppe, .int pwo, .ref apk, .ref apq, .ref apr])), (apk, .inl (cI, 6, .inl pkind)), (apq, .inl (cI, 6, .inl pwsq)), (apr, .inl (cI, 6, .inl pwhr)), (aq, .inr (1, [.ref ap, .int qgone, .int qmet, .int qstill, .int qdone, .ref aqh, .ref aqw, .ref aqs, .ref aqu])), (aqh, .inl (cI, 6, .inl qhour)), (aqw, .inl (cI, 6, .inl qworn)), (aqs, .inl (cI, 5, .inl qsquare)), (aqu, .inl (cI, 5, .inl qunder)), (ae, .inr (5, [.ref aeh, .ref aeb, .int esize])), (aeh, .inl (cI, 6, .inl ehour)), (aeb, .inl (cI, 6, .inl ebeh)), (ay, .inr (6, [.ref ayl, .int ylen])), (ayl, .inl (cC, 200, .inl ylet)), (az, .inr (4, [.ref azr, .int zsize])), (ak, .inr (4, [.ref akr, .int ksize]))] rr A) args s 0 0 A := ⟨_, rfl⟩
  rw [← hQ]
  unfold f_X7_count at hF
  refine lv_iload_n hx hb dX7_count_0 rfl (lv_at hl 1 rfl) ?_
  by_cases c1 : i = (0 : Int32)
  · have hF := op_pos c1 hF
    refine lv_tableIn (x := i) (off := 67) (tgt := 68) hx hb dX7_count_1 (by rw [c1]; decide) (by rw [c1]; decide) (by rw [c1]; rfl) (by decide) ?_
    refine lv_aload_n hx hb dX7_count_68 rfl (lv_at hl 0 rfl) ?_
    refine va_get (D := D) (ci := 7) (v := .ref ap) (C := RX7) (T := TX7) (N := 9) hx hb hts iX7 hown hK hP 0 rfl rfl 2 (by decide) k_f26 (fun _ h9 => h9) rfl dX7_count_69 ?_
    refine va_get (D := D) (ci := 2) (v := .int psq) (C := RX2) (T := TX2) (N := 7) hx hb hts iX2 hown hK hP 1 rfl rfl 0 (by decide) k_f277 (fun _ h9 => h9) rfl dX7_count_72 ?_
    cases hF
    rw [hQ]
    exact xri hC hP hS dX7_count_75
  · have hF := op_neg c1 hF
    by_cases c2 : i = (1 : Int32)
    · have hF := op_pos c2 hF
      refine lv_tableIn (x := i) (off := 75) (tgt := 76) hx hb dX7_count_1 (by rw [c2]; decide) (by rw [c2]; decide) (by rw [c2]; rfl) (by decide) ?_
      refine lv_aload_n hx hb dX7_count_76 rfl (lv_at hl 0 rfl) ?_
      refine va_get (D := D) (ci := 7) (v := .ref ap) (C := RX7) (T := TX7) (N := 9) hx hb hts iX7 hown hK hP 0 rfl rfl 2 (by decide) k_f26 (fun _ h9 => h9) rfl dX7_count_77 ?_
      refine va_get (D := D) (ci := 2) (v := .int ppa) (C := RX2) (T := TX2) (N := 7) hx hb hts iX2 hown hK hP 1 rfl rfl 1 (by decide) k_f102 (fun _ h9 => h9) rfl dX7_count_80 ?_
      cases hF
      rw [hQ]
      exact xri hC hP hS dX7_count_83
    · have hF := op_neg c2 hF
      by_cases c3 : i = (2 : Int32)
      · have hF := op_pos c3 hF
        refine lv_tableIn (x := i) (off := 83) (tgt := 84) hx hb dX7_count_1 (by rw [c3]; decide) (by rw [c3]; decide) (by rw [c3]; rfl) (by decide) ?_
        refine lv_aload_n hx hb dX7_count_84 rfl (lv_at hl 0 rfl) ?_
        refine va_get (D := D) (ci := 7) (v := .ref ap) (C := RX7) (T := TX7) (N := 9) hx hb hts iX7 hown hK hP 0 rfl rfl 2 (by decide) k_f26 (fun _ h9 => h9) rfl dX7_count_85 ?_
        refine va_get (D := D) (ci := 2) (v := .int ppe) (C := RX2) (T := TX2) (N := 7) hx hb hts iX2 hown hK hP 1 rfl rfl 2 (by decide) k_f105 (fun _ h9 => h9) rfl dX7_count_88 ?_
        cases hF
        rw [hQ]
        exact xri hC hP hS dX7_count_91
      · have hF := op_neg c3 hF
        by_cases c4 : i = (3 : Int32)
        · have hF := op_pos c4 hF
          refine lv_tableIn (x := i) (off := 91) (tgt := 92) hx hb dX7_count_1 (by rw [c4]; decide) (by rw [c4]; decide) (by rw [c4]; rfl) (by decide) ?_
          refine lv_aload_n hx hb dX7_count_92 rfl (lv_at hl 0 rfl) ?_
          refine va_get (D := D) (ci := 7) (v := .ref ap) (C := RX7) (T := TX7) (N := 9) hx hb hts iX7 hown hK hP 0 rfl rfl 2 (by decide) k_f26 (fun _ h9 => h9) rfl dX7_count_93 ?_
          refine va_get (D := D) (ci := 2) (v := .int pwo) (C := RX2) (T := TX2) (N := 7) hx hb hts iX2 hown hK hP 1 rfl rfl 3 (by decide) k_f280 (fun _ h9 => h9) rfl dX7_count_96 ?_
          cases hF
          rw [hQ]
          exact xri hC hP hS dX7_count_99
        · have hF := op_neg c4 hF
          by_cases c5 : i = (4 : Int32)
          · have hF := op_pos c5 hF
            refine lv_tableIn (x := i) (off := 99) (tgt := 100) hx hb dX7_count_1 (by rw [c5]; decide) (by rw [c5]; decide) (by rw [c5]; rfl) (by decide) ?_
            refine lv_aload_n hx hb dX7_count_100 rfl (lv_at hl 0 rfl) ?_
            refine va_get (D := D) (ci := 7) (v := .ref aq) (C := RX7) (T := TX7) (N := 9) hx hb hts iX7 hown hK hP 0 rfl rfl 3 (by decide) k_f35 (fun _ h9 => h9) rfl dX7_count_101 ?_
            refine va_get (D := D) (ci := 1) (v := .int qgone) (C := RX1) (T := TX1) (N := 9) hx hb hts iX1 hown hK hP 5 rfl rfl 1 (by decide) k_f199 (fun _ h9 => h9) rfl dX7_count_104 ?_
            cases hF
            rw [hQ]
            exact xri hC hP hS dX7_count_107
          · have hF := op_neg c5 hF
            by_cases c6 : i = (5 : Int32)
            · have hF := op_pos c6 hF
              refine lv_tableIn (x := i) (off := 107) (tgt := 108) hx hb dX7_count_1 (by rw [c6]; decide) (by rw [c6]; decide) (by rw [c6]; rfl) (by decide) ?_
              refine lv_aload_n hx hb dX7_count_108 rfl (lv_at hl 0 rfl) ?_
              refine va_get (D := D) (ci := 7) (v := .ref aq) (C := RX7) (T := TX7) (N := 9) hx hb hts iX7 hown hK hP 0 rfl rfl 3 (by decide) k_f35 (fun _ h9 => h9) rfl dX7_count_109 ?_
              refine va_get (D := D) (ci := 1) (v := .int qdone) (C := RX1) (T := TX1) (N := 9) hx hb hts iX1 hown hK hP 5 rfl rfl 4 (by decide) k_f269 (fun _ h9 => h9) rfl dX7_count_112 ?_
              obtain ⟨r7, hb8, hF⟩ := op_bind hF
              refine xSr (As := [.int qdone]) (rest := []) hC hP hD hS [] (c_J6_bitCount_0f7a4 l D cI cC cM qdone r7 hb8) (va_cwS 1 hts gX7_count_J6_bitCount_0f7a4 rfl rfl rfl pd_J6_bitCount_0f7a4 ⟨Nat.le_of_ble_eq_true rfl, Nat.le_of_ble_eq_true rfl⟩) rfl rfl rfl hl.1 rfl (Nat.le_of_ble_eq_true rfl) dX7_count_115 ⟨Nat.zero_le _, Nat.zero_le _⟩ (fun H locs hP hS => ?_)
              cases hF
              rw [hQ]
              exact xri hC hP hS dX7_count_118
            · have hF := op_neg c6 hF
              by_cases c9 : i = (6 : Int32)
              · have hF := op_pos c9 hF
                refine lv_tableIn (x := i) (off := 118) (tgt := 119) hx hb dX7_count_1 (by rw [c9]; decide) (by rw [c9]; decide) (by rw [c9]; rfl) (by decide) ?_
                refine lv_aload_n hx hb dX7_count_119 rfl (lv_at hl 0 rfl) ?_
                refine va_get (D := D) (ci := 7) (v := .ref aq) (C := RX7) (T := TX7) (N := 9) hx hb hts iX7 hown hK hP 0 rfl rfl 3 (by decide) k_f35 (fun _ h9 => h9) rfl dX7_count_120 ?_
                refine va_get (D := D) (ci := 1) (v := .int qmet) (C := RX1) (T := TX1) (N := 9) hx hb hts iX1 hown hK hP 5 rfl rfl 2 (by decide) k_f272 (fun _ h9 => h9) rfl dX7_count_123 ?_
                cases hF
                rw [hQ]
                exact xri hC hP hS dX7_count_126
              · have hF := op_neg c9 hF
                by_cases c10 : i = (7 : Int32)
                · have hF := op_pos c10 hF
                  refine lv_tableIn (x := i) (off := 126) (tgt := 127) hx hb dX7_count_1 (by rw [c10]; decide) (by rw [c10]; decide) (by rw [c10]; rfl) (by decide) ?_
                  refine lv_aload_n hx hb dX7_count_127 rfl (lv_at hl 0 rfl) ?_
                  refine va_get (D := D) (ci := 7) (v := .ref aq) (C := RX7) (T := TX7) (N := 9) hx hb hts iX7 hown hK hP 0 rfl rfl 3 (by decide) k_f35 (fun _ h9 => h9) rfl dX7_count_128 ?_
                  refine va_get (D := D) (ci := 1) (v := .int qstill) (C := RX1) (T := TX1) (N := 9) hx hb hts iX1 hown hK hP 5 rfl rfl 3 (by decide) k_f240 (fun _ h9 => h9) rfl dX7_count_131 ?_
                  obtain ⟨r11, hb12, hF⟩ := op_bind hF
                  refine xSr (As := [.int qstill]) (rest := []) hC hP hD hS [] (c_J6_bitCount_0f7a4 l D cI cC cM qstill r11 hb12) (va_cwS 1 hts gX7_count_J6_bitCount_0f7a4 rfl rfl rfl pd_J6_bitCount_0f7a4 ⟨Nat.le_of_ble_eq_true rfl, Nat.le_of_ble_eq_true rfl⟩) rfl rfl rfl hl.1 rfl (Nat.le_of_ble_eq_true rfl) dX7_count_134 ⟨Nat.zero_le _, Nat.zero_le _⟩ (fun H locs hP hS => ?_)
                  cases hF
                  rw [hQ]
                  exact xri hC hP hS dX7_count_137
                · have hF := op_neg c10 hF
                  by_cases c13 : i = (8 : Int32)
                  · have hF := op_pos c13 hF
                    refine lv_tableIn (x := i) (off := 137) (tgt := 138) hx hb dX7_count_1 (by rw [c13]; decide) (by rw [c13]; decide) (by rw [c13]; rfl) (by decide) ?_
                    refine lv_aload_n hx hb dX7_count_138 rfl (lv_at hl 0 rfl) ?_
                    refine va_get (D := D) (ci := 7) (v := .ref aq) (C := RX7) (T := TX7) (N := 9) hx hb hts iX7 hown hK hP 0 rfl rfl 3 (by decide) k_f35 (fun _ h9 => h9) rfl dX7_count_139 ?_
                    obtain ⟨r14, hb15, hF⟩ := op_bind hF
                    refine xVr (As := []) (rest := []) hC hP hD hS [5, 6, 7, 8, 9, 1, 2, 3, 4] (c_X1_parasolsInStand l D cI cC cM aq aqh aqw aqs aqu ap apk apq apr qgone qmet qstill qdone qhour qworn qsquare qunder psq ppa ppe pwo pkind pwsq pwhr r14 hb15) (cwV 0 hts gX7_count_X1_parasolsInStand rfl rfl rfl ⟨rfl, pd_X1_parasolsInStand⟩ ⟨Nat.le_of_ble_eq_true rfl, Nat.le_of_ble_eq_true rfl⟩) rfl rfl 5 1 rfl rfl rfl rfl hl.1 rfl (Nat.le_of_ble_eq_true rfl) dX7_count_142 ⟨Nat.zero_le _, Nat.zero_le _⟩ (fun H locs hP hS => ?_)
                    cases hF
                    rw [hQ]
                    exact xri hC hP hS dX7_count_145
                  · have hF := op_neg c13 hF
                    by_cases c16 : i = (9 : Int32)
                    · have hF := op_pos c16 hF
                      refine lv_tableIn (x := i) (off := 145) (tgt := 146) hx hb dX7_count_1 (by rw [c16]; decide) (by rw [c16]; decide) (by rw [c16]; rfl) (by decide) ?_
                      refine lv_aload_n hx hb dX7_count_146 rfl (lv_at hl 0 rfl) ?_
                      refine va_get (D := D) (ci := 7) (v := .ref ae) (C := RX7) (T := TX7) (N := 9) hx hb hts iX7 hown hK hP 0 rfl rfl 7 (by decide) k_f57 (fun _ h9 => h9) rfl dX7_count_147 ?_
                      refine va_get (D := D) (ci := 5) (v := .int esize) (C := RX5) (T := TX5) (N := 3) hx hb hts iX5 hown hK hP 10 rfl rfl 2 (by decide) k_f250 (fun _ h9 => h9) rfl dX7_count_150 ?_
                      cases hF
                      rw [hQ]
                      exact xri hC hP hS dX7_count_153
                    · have hF := op_neg c16 hF
                      by_cases c17 : i = (10 : Int32)
                      · have hF := op_pos c17 hF
                        refine lv_tableIn (x := i) (off := 153) (tgt := 154) hx hb dX7_count_1 (by rw [c17]; decide) (by rw [c17]; decide) (by rw [c17]; rfl) (by decide) ?_
                        refine lv_aload_n hx hb dX7_count_154 rfl (lv_at hl 0 rfl) ?_
                        refine va_get (D := D) (ci := 7) (v := .ref az) (C := RX7) (T := TX7) (N := 9) hx hb hts iX7 hown hK hP 0 rfl rfl 5 (by decide) k_f47 (fun _ h9 => h9) rfl dX7_count_155 ?_
                        refine va_get (D := D) (ci := 4) (v := .int zsize) (C := RX4) (T := TX4) (N := 2) hx hb hts iX4 hown hK hP 15 rfl rfl 1 (by decide) k_f208 (fun _ h9 => h9) rfl dX7_count_158 ?_
                        cases hF
                        rw [hQ]
                        exact xri hC hP hS dX7_count_161
                      · have hF := op_neg c17 hF
                        by_cases c18 : i = (11 : Int32)
                        · have hF := op_pos c18 hF
                          refine lv_tableIn (x := i) (off := 161) (tgt := 162) hx hb dX7_count_1 (by rw [c18]; decide) (by rw [c18]; decide) (by rw [c18]; rfl) (by decide) ?_
                          refine lv_aload_n hx hb dX7_count_162 rfl (lv_at hl 0 rfl) ?_
                          refine va_get (D := D) (ci := 7) (v := .ref ak) (C := RX7) (T := TX7) (N := 9) hx hb hts iX7 hown hK hP 0 rfl rfl 6 (by decide) k_f51 (fun _ h9 => h9) rfl dX7_count_163 ?_
                          refine va_get (D := D) (ci := 4) (v := .int ksize) (C := RX4) (T := TX4) (N := 2) hx hb hts iX4 hown hK hP 16 rfl rfl 1 (by decide) k_f208 (fun _ h9 => h9) rfl dX7_count_166 ?_
                          cases hF
                          rw [hQ]
                          exact xri hC hP hS dX7_count_169
                        · have hF := op_neg c18 hF
                          by_cases c19 : i = (12 : Int32)
                          · have hF := op_pos c19 hF
                            refine lv_tableIn (x := i) (off := 169) (tgt := 170) hx hb dX7_count_1 (by rw [c19]; decide) (by rw [c19]; decide) (by rw [c19]; rfl) (by decide) ?_
                            refine lv_aload_n hx hb dX7_count_170 rfl (lv_at hl 0 rfl) ?_
                            refine va_get (D := D) (ci := 7) (v := .ref ay) (C := RX7) (T := TX7) (N := 9) hx hb hts iX7 hown hK hP 0 rfl rfl 0 (by decide) k_f10 (fun _ h9 => h9) rfl dX7_count_171 ?_
                            refine va_get (D := D) (ci := 6) (v := .int ylen) (C := RX6) (T := TX6) (N := 2) hx hb hts iX6 hown hK hP 13 rfl rfl 1 (by decide) k_f98 (fun _ h9 => h9) rfl dX7_count_174 ?_
                            cases hF
                            rw [hQ]
                            exact xri hC hP hS dX7_count_177
                          · have hF := op_neg c19 hF
                            refine lv_tableOut (x := i) (tgt := 178) hx hb dX7_count_1 (by have n0 := lv_neT (a := 0) c1 rfl; have n1 := lv_neT (a := 1) c2 rfl; have n2 := lv_neT (a := 2) c3 rfl; have n3 := lv_neT (a := 3) c4 rfl; have n4 := lv_neT (a := 4) c5 rfl; have n5 := lv_neT (a := 5) c6 rfl; have n6 := lv_neT (a := 6) c9 rfl; have n7 := lv_neT (a := 7) c10 rfl; have n8 := lv_neT (a := 8) c13 rfl; have n9 := lv_neT (a := 9) c16 rfl; have n10 := lv_neT (a := 10) c17 rfl; have n11 := lv_neT (a := 11) c18 rfl; have n12 := lv_neT (a := 12) c19 rfl; omega) (by decide) ?_
                            refine lv_iconst (v := (-1 : Int32)) hx hb dX7_count_178 (by decide) ?_
                            cases hF
                            rw [hQ]
                            exact xri hC hP hS dX7_count_179
