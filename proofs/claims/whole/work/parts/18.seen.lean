def f_X5_isFull (zsize : Int32) : Option Int32 := (if zsize < (6 : Int32) then (some (0 : Int32)) else (some (1 : Int32)))

def rm_X5_isFull : Room := { frames := 0, cells := 0, slots := 0, locals := 0 }

theorem pd_X5_isFull : yX5_isFull.cls ≠ "java/lang/invoke/MethodHandle" ∧ yX5_isFull.cls ≠ "java/lang/invoke/VarHandle" ∧ (parseMethodDescriptor yX5_isFull.desc).map (fun d => d.parameters.length) = some 0 := by decide +kernel

set_option maxHeartbeats 4000000 in
set_option maxRecDepth 100000 in
theorem c_X5_isFull (l : Launch) (D : va_G) (cI cC cM : ClassId) (az azh azb : Nat) (zsize : Int32) (zhour : (Nat → Int32)) (zbeh : (Nat → Int32)) (rr : Int32) (hF : f_X5_isFull zsize = some rr) : CI l D cI cC cM yX5_isFull wsX5_isFull rm_X5_isFull [.ref az] [(az, .inr (5, [.ref azh, .ref azb, .int zsize])), (azh, .inl (cI, 6, .inl zhour)), (azb, .inl (cI, 6, .inl zbeh))] [(az, .inr (5, [.ref azh, .ref azb, .int zsize])), (azh, .inl (cI, 6, .inl zhour)), (azb, .inl (cI, 6, .inl zbeh))] rr := by
  refine CI.of (cc := cX5_isFull) (nL := 1) (ret := (some .boolean)) (by decide) rfl (Nat.le_of_ble_eq_true rfl) ?_
  intro p e s m args below meth c A hC hP hD hS ls hl
  obtain ⟨hx, hb, hml, hown, hts, hr, hlk, hG, hA⟩ := id hC
  have hown : s.vm.findClass RX5 = some m.cls := hown
  have hK := hG.1
  have hl : lv_has ls 1 [(0, .ref az)] := hl
  have k_f18 := hts (.fieldLink RX5 18 "ParasolHours$Sightings" "size" "I") (List.mem_of_getElem? (i := 1) rfl)
  have iX5 : ∀ w ∈ wsX50, w ∈ wsX5_isFull := by decide +kernel
  obtain ⟨Q, hQ⟩ : ∃ Q, Q = MQ below (QI D [(az, .inr (5, [.ref azh, .ref azb, .int zsize])), (azh, .inl (cI, 6, .inl zhour)), (azb, .inl (cI, 6, .inl zbeh))] rr A) args s 0 0 A := ⟨_, rfl⟩
  rw [← hQ]
  unfold f_X5_isFull at hF
  refine lv_aload_n hx hb dX5_isFull_0 rfl (lv_at hl 0 rfl) ?_
  refine va_get (D := D) (ci := 5) (v := .int zsize) (C := RX5) (T := TX5) (N := 3) hx hb hts iX5 hown hK hP 0 rfl rfl 2 (by decide) k_f18 (fun _ h9 => h9) rfl dX5_isFull_1 ?_
  refine lv_bipush (v := (6 : Int32)) hx hb dX5_isFull_4 (by decide) ?_
  refine lv_icmp_lt (tgt := 13) hx hb dX5_isFull_6 (by decide) (fun c1 => ?_) (fun c1 => ?_)
  · have hF := op_pos c1 hF
    refine lv_iconst (v := (0 : Int32)) hx hb dX5_isFull_13 (by decide) ?_
    cases hF
    rw [hQ]
    exact xrz hC rfl hP hS dX5_isFull_14
  · have hF := op_neg c1 hF
    refine lv_iconst (v := (1 : Int32)) hx hb dX5_isFull_9 (by decide) ?_
    refine lv_goto (tgt := 14) hx hb dX5_isFull_10 (by decide) ?_
    cases hF
    rw [hQ]
    exact xrz hC rfl hP hS dX5_isFull_14

def f_X5_add (zsize : Int32) (zhour : (Nat → Int32)) (zbeh : (Nat → Int32)) (h : Int32) (n : Int32) : Option (Int32 × (Nat → Int32) × (Nat → Int32)) := (Option.bind (f_X7_put 6 zhour zsize h) fun f_1 => (Option.bind (f_X7_put 6 zbeh zsize n) fun f_3 => (some ((zsize + (1 : Int32)), f_1, f_3))))

def rm_X5_add : Room := { frames := 1, cells := 0, slots := 0, locals := 22 }

theorem pd_X5_add : yX5_add.cls ≠ "java/lang/invoke/MethodHandle" ∧ yX5_add.cls ≠ "java/lang/invoke/VarHandle" ∧ (parseMethodDescriptor yX5_add.desc).map (fun d => d.parameters.length) = some 2 := by decide +kernel

set_option maxHeartbeats 4000000 in
set_option maxRecDepth 100000 in
theorem c_X5_add (l : Launch) (D : va_G) (cI cC cM : ClassId) (az azh azb : Nat) (zsize : Int32) (zhour : (Nat → Int32)) (zbeh : (Nat → Int32)) (h : Int32) (n : Int32) (zsize' : Int32) (zhour' : (Nat → Int32)) (zbeh' : (Nat → Int32)) (hF : f_X5_add zsize zhour zbeh h n = some (zsize', zhour', zbeh')) : CV l D cI cC cM yX5_add wsX5_add rm_X5_add [.ref az, .int h, .int n] [(az, .inr (5, [.ref azh, .ref azb, .int zsize])), (azh, .inl (cI, 6, .inl zhour)), (azb, .inl (cI, 6, .inl zbeh))] [(az, .inr (5, [.ref azh, .ref azb, .int zsize'])), (azh, .inl (cI, 6, .inl zhour')), (azb, .inl (cI, 6, .inl zbeh'))] := by
  refine CV.of (cc := cX5_add) (nL := 3) (ret := none) (by decide) rfl (Nat.le_of_ble_eq_true rfl) ?_
  intro p e s m args below meth c A hC hP hD hS ls hl
  obtain ⟨hx, hb, hml, hown, hts, hr, hlk, hG, hA⟩ := id hC
  have hown : s.vm.findClass RX5 = some m.cls := hown
  have hK := hG.1
  have hl : lv_has ls 3 [(0, .ref az), (1, .int h), (2, .int n)] := hl
  have k_f9 := hts (.fieldLink RX5 9 "ParasolHours$Sightings" "hour" "[I") (List.mem_of_getElem? (i := 1) rfl)
  have k_f18 := hts (.fieldLink RX5 18 "ParasolHours$Sightings" "size" "I") (List.mem_of_getElem? (i := 2) rfl)
  have k_st_put := hts (.static yX7_put) (List.mem_of_getElem? (i := 4) rfl)
  have k_in_X7 := hts (.initialized RX7) (List.mem_of_getElem? (i := 5) rfl)
  have k_f15 := hts (.fieldLink RX5 15 "ParasolHours$Sightings" "behind" "[I") (List.mem_of_getElem? (i := 3) rfl)
  have iX5 : ∀ w ∈ wsX50, w ∈ wsX5_add := by decide +kernel
  obtain ⟨Q, hQ⟩ : ∃ Q, Q = MQ below (QV D [(az, .inr (5, [.ref azh, .ref azb, .int zsize'])), (azh, .inl (cI, 6, .inl zhour')), (azb, .inl (cI, 6, .inl zbeh'))] A) args s 0 0 A := ⟨_, rfl⟩
  rw [← hQ]
  unfold f_X5_add at hF
  refine lv_aload_n hx hb dX5_add_0 rfl (lv_at hl 0 rfl) ?_
  refine va_get (D := D) (ci := 5) (v := .ref azh) (C := RX5) (T := TX5) (N := 3) hx hb hts iX5 hown hK hP 0 rfl rfl 0 (by decide) k_f9 (fun _ h9 => h9) rfl dX5_add_1 ?_
  refine lv_aload_n hx hb dX5_add_4 rfl (lv_at hl 0 rfl) ?_
  refine va_get (D := D) (ci := 5) (v := .int zsize) (C := RX5) (T := TX5) (N := 3) hx hb hts iX5 hown hK hP 0 rfl rfl 2 (by decide) k_f18 (fun _ h9 => h9) rfl dX5_add_5 ?_
  refine lv_iload_n hx hb dX5_add_8 rfl (lv_at hl 1 rfl) ?_
  obtain ⟨f_1, hb2, hF⟩ := op_bind hF
  refine xNv (As := [.ref azh, .int zsize, .int h]) (rest := []) hC hP hD hS [1] (c_X7_put l D cI cC cM azh 6 zhour zsize h f_1 hb2) ⟨va_cnB 3 hts gX5_add_X7_put_n22 rfl rfl rfl (hG.nw 22 rfl) k_in_X7 pd_X7_put ⟨Nat.le_of_ble_eq_true rfl, Nat.le_of_ble_eq_true rfl⟩, k_st_put, trivial⟩ rfl rfl rfl rfl hl.1 rfl (Nat.le_of_ble_eq_true rfl) dX5_add_9 ⟨Nat.zero_le _, Nat.zero_le _⟩ (fun H locs hP hD hS => ?_)
  have hP : va_P D vwCl [(az, .inr (5, [.ref azh, .ref azb, .int zsize])), (azh, .inl (cI, 6, .inl f_1)), (azb, .inl (cI, 6, .inl zbeh))] H := hP
  have hD : va_D A [(az, .inr (5, [.ref azh, .ref azb, .int zsize])), (azh, .inl (cI, 6, .inl f_1)), (azb, .inl (cI, 6, .inl zbeh))] := hD
  refine lv_aload_n hx hb dX5_add_12 rfl (lv_at hl 0 rfl) ?_
  refine va_get (D := D) (ci := 5) (v := .ref azb) (C := RX5) (T := TX5) (N := 3) hx hb hts iX5 hown hK hP 0 rfl rfl 1 (by decide) k_f15 (fun _ h9 => h9) rfl dX5_add_13 ?_
  refine lv_aload_n hx hb dX5_add_16 rfl (lv_at hl 0 rfl) ?_
  refine va_get (D := D) (ci := 5) (v := .int zsize) (C := RX5) (T := TX5) (N := 3) hx hb hts iX5 hown hK hP 0 rfl rfl 2 (by decide) k_f18 (fun _ h9 => h9) rfl dX5_add_17 ?_
  refine lv_iload_n hx hb dX5_add_20 rfl (lv_at hl 2 rfl) ?_
  obtain ⟨f_3, hb4, hF⟩ := op_bind hF
  refine xNv (As := [.ref azb, .int zsize, .int n]) (rest := []) hC hP hD hS [2] (c_X7_put l D cI cC cM azb 6 zbeh zsize n f_3 hb4) ⟨va_cnB 3 hts gX5_add_X7_put_n22 rfl rfl rfl (hG.nw 22 rfl) k_in_X7 pd_X7_put ⟨Nat.le_of_ble_eq_true rfl, Nat.le_of_ble_eq_true rfl⟩, k_st_put, trivial⟩ rfl rfl rfl rfl hl.1 rfl (Nat.le_of_ble_eq_true rfl) dX5_add_21 ⟨Nat.zero_le _, Nat.zero_le _⟩ (fun H locs hP hD hS => ?_)
  have hP : va_P D vwCl [(az, .inr (5, [.ref azh, .ref azb, .int zsize])), (azh, .inl (cI, 6, .inl f_1)), (azb, .inl (cI, 6, .inl f_3))] H := hP
  have hD : va_D A [(az, .inr (5, [.ref azh, .ref azb, .int zsize])), (azh, .inl (cI, 6, .inl f_1)), (azb, .inl (cI, 6, .inl f_3))] := hD
  refine lv_aload_n hx hb dX5_add_24 rfl (lv_at hl 0 rfl) ?_
  refine lv_dup hx hb dX5_add_25 rfl ?_
  refine va_get (D := D) (ci := 5) (v := .int zsize) (C := RX5) (T := TX5) (N := 3) hx hb hts iX5 hown hK hP 0 rfl rfl 2 (by decide) k_f18 (fun _ h9 => h9) rfl dX5_add_26 ?_
  refine lv_iconst (v := (1 : Int32)) hx hb dX5_add_29 (by decide) ?_
  refine lv_iadd hx hb dX5_add_30 ?_
  refine va_put (D := D) (ci := 5) (v := .int (zsize + (1 : Int32))) (ty := .int) (C := RX5) (T := TX5) (N := 3) hx hb hts iX5 tyX5 tyX5_ok nmX5 hown hK hP hD hS 0 rfl rfl 2 (by decide) k_f18 (fun _ h9 => h9) rfl (by decide +kernel) rfl rfl (Nat.le_of_ble_eq_true rfl) dX5_add_31 (fun H locs hP hD hS => ?_)
  have hP : va_P D vwCl [(az, .inr (5, [.ref azh, .ref azb, .int (zsize + (1 : Int32))])), (azh, .inl (cI, 6, .inl f_1)), (azb, .inl (cI, 6, .inl f_3))] H := hP
  have hD : va_D A [(az, .inr (5, [.ref azh, .ref azb, .int (zsize + (1 : Int32))])), (azh, .inl (cI, 6, .inl f_1)), (azb, .inl (cI, 6, .inl f_3))] := hD
  cases hF
  rw [hQ]
  exact xrv hC hP hS dX5_add_34

def f_X5_clear  : Option Int32 := (some (0 : Int32))

def rm_X5_clear : Room := { frames := 0, cells := 0, slots := 0, locals := 0 }

theorem pd_X5_clear : yX5_clear.cls ≠ "java/lang/invoke/MethodHandle" ∧ yX5_clear.cls ≠ "java/lang/invoke/VarHandle" ∧ (parseMethodDescriptor yX5_clear.desc).map (fun d => d.parameters.length) = some 0 := by decide +kernel

set_option maxHeartbeats 4000000 in
set_option maxRecDepth 100000 in
theorem c_X5_clear (l : Launch) (D : va_G) (cI cC cM : ClassId) (az azh azb : Nat) (zsize : Int32) (zhour : (Nat → Int32)) (zbeh : (Nat → Int32)) (zsize' : Int32) (hF : f_X5_clear  = some zsize') : CV l D cI cC cM yX5_clear wsX5_clear rm_X5_clear [.ref az] [(az, .inr (5, [.ref azh, .ref azb, .int zsize])), (azh, .inl (cI, 6, .inl zhour)), (azb, .inl (cI, 6, .inl zbeh))] [(az, .inr (5, [.ref azh, .ref azb, .int zsize'])), (azh, .inl (cI, 6, .inl zhour)), (azb, .inl (cI, 6, .inl zbeh))] := by
  refine CV.of (cc := cX5_clear) (nL := 1) (ret := none) (by decide) rfl (Nat.le_of_ble_eq_true rfl) ?_
  intro p e s m args below meth c A hC hP hD hS ls hl
  obtain ⟨hx, hb, hml, hown, hts, hr, hlk, hG, hA⟩ := id hC
  have hown : s.vm.findClass RX5 = some m.cls := hown
  have hK := hG.1
  have hl : lv_has ls 1 [(0, .ref az)] := hl
  have k_f18 := hts (.fieldLink RX5 18 "ParasolHours$Sightings" "size" "I") (List.mem_of_getElem? (i := 1) rfl)
  have iX5 : ∀ w ∈ wsX50, w ∈ wsX5_clear := by decide +kernel
  obtain ⟨Q, hQ⟩ : ∃ Q, Q = MQ below (QV D [(az, .inr (5, [.ref azh, .ref azb, .int zsize'])), (azh, .inl (cI, 6, .inl zhour)), (azb, .inl (cI, 6, .inl zbeh))] A) args s 0 0 A := ⟨_, rfl⟩
  rw [← hQ]
  unfold f_X5_clear at hF
  refine lv_aload_n hx hb dX5_clear_0 rfl (lv_at hl 0 rfl) ?_
  refine lv_iconst (v := (0 : Int32)) hx hb dX5_clear_1 (by decide) ?_
  refine va_put (D := D) (ci := 5) (v := .int (0 : Int32)) (ty := .int) (C := RX5) (T := TX5) (N := 3) hx hb hts iX5 tyX5 tyX5_ok nmX5 hown hK hP hD hS 0 rfl rfl 2 (by decide) k_f18 (fun _ h9 => h9) rfl (by decide +kernel) rfl rfl (Nat.le_of_ble_eq_true rfl) dX5_clear_2 (fun H locs hP hD hS => ?_)
  have hP : va_P D vwCl [(az, .inr (5, [.ref azh, .ref azb, .int (0 : Int32)])), (azh, .inl (cI, 6, .inl zhour)), (azb, .inl (cI, 6, .inl zbeh))] H := hP
  have hD : va_D A [(az, .inr (5, [.ref azh, .ref azb, .int (0 : Int32)])), (azh, .inl (cI, 6, .inl zhour)), (azb, .inl (cI, 6, .inl zbeh))] := hD
  cases hF
  rw [hQ]
  exact xrv hC hP hS dX5_clear_5

def f_X5_fit_L3 (zsize : Int32) (zbeh : (Nat → Int32)) (qgone : Int32) (pkind : (Nat → Int32)) (u : Int32) (h : Int32) (zhour : (Nat → Int32)) (k3 : Int32 → Option Int32) : Nat → Int32 → Option Int32
  | 0, _ => none
  | nf3 + 1, v1 => (if zsize ≤ v1 then (k3 v1) else (Option.bind (f_X7_at 6 zbeh v1) fun r3 => (Option.bind (f_X1_hourFrom qgone pkind u h r3) fun r5 => (Option.bind (f_X7_at 6 zhour v1) fun r7 => (if r5 = r7 then (f_X5_fit_L3 zsize zbeh qgone pkind u h zhour k3 nf3 (v1 + (1 : Int32))) else (some (0 : Int32)))))))
theorem f_X5_fit_L3_0 (zsize : Int32) (zbeh : (Nat → Int32)) (qgone : Int32) (pkind : (Nat → Int32)) (u : Int32) (h : Int32) (zhour : (Nat → Int32)) (k3 : Int32 → Option Int32) (v1 : Int32) : f_X5_fit_L3 zsize zbeh qgone pkind u h zhour k3 0 v1 = none := rfl
theorem f_X5_fit_L3_s (zsize : Int32) (zbeh : (Nat → Int32)) (qgone : Int32) (pkind : (Nat → Int32)) (u : Int32) (h : Int32) (zhour : (Nat → Int32)) (k3 : Int32 → Option Int32) (nf3 : Nat) (v1 : Int32) : f_X5_fit_L3 zsize zbeh qgone pkind u h zhour k3 (nf3 + 1) v1 = (if zsize ≤ v1 then (k3 v1) else (Option.bind (f_X7_at 6 zbeh v1) fun r3 => (Option.bind (f_X1_hourFrom qgone pkind u h r3) fun r5 => (Option.bind (f_X7_at 6 zhour v1) fun r7 => (if r5 = r7 then (f_X5_fit_L3 zsize zbeh qgone pkind u h zhour k3 nf3 (v1 + (1 : Int32))) else (some (0 : Int32))))))) := rfl

def f_X5_fit (zsize : Int32) (zhour : (Nat → Int32)) (zbeh : (Nat → Int32)) (qgone : Int32) (pkind : (Nat → Int32)) (u : Int32) (h : Int32) : Option Int32 := (f_X5_fit_L3 zsize zbeh qgone pkind u h zhour (fun (v1 : Int32) => (some (1 : Int32))) 20000 (0 : Int32))

def rm_X5_fit : Room := { frames := 3, cells := 0, slots := 0, locals := 67 }

theorem pd_X5_fit : yX5_fit.cls ≠ "java/lang/invoke/MethodHandle" ∧ yX5_fit.cls ≠ "java/lang/invoke/VarHandle" ∧ (parseMethodDescriptor yX5_fit.desc).map (fun d => d.parameters.length) = some 3 := by decide +kernel

set_option maxHeartbeats 4000000 in
set_option maxRecDepth 100000 in
theorem c_X5_fit (l : Launch) (D : va_G) (cI cC cM : ClassId) (az azh azb aq aqh aqw aqs aqu ap apk apq apr : Nat) (zsize : Int32) (zhour : (Nat → Int32)) (zbeh : (Nat → Int32)) (qgone : Int32) (qmet : Int32) (qstill : Int32) (qdone : Int32) (qhour : (Nat → Int32)) (qworn : (Nat → Int32)) (qsquare : (Nat → Int32)) (qunder : (Nat → Int32)) (psq : Int32) (ppa : Int32) (ppe : Int32) (pwo : Int32) (pkind : (Nat → Int32)) (pwsq : (Nat → Int32)) (pwhr : (Nat → Int32)) (u : Int32) (h : Int32) (rr : Int32) (hF : f_X5_fit zsize zhour zbeh qgone pkind u h = some rr) : CI l D cI cC cM yX5_fit wsX5_fit rm_X5_fit [.ref az, .ref aq, .int u, .int h] [(az, .inr (5, [.ref azh, .ref azb, .int zsize])), (azh, .inl (cI, 6, .inl zhour)), (azb, .inl (cI, 6, .inl zbeh)), (aq, .inr (1, [.ref ap, .int qgone, .int qmet, .int qstill, .int qdone, .ref aqh, .ref aqw, .ref aqs, .ref aqu])), (aqh, .inl (cI, 6, .inl qhour)), (aqw, .inl (cI, 6, .inl qworn)), (aqs, .inl (cI, 5, .inl qsquare)), (aqu, .inl (cI, 5, .inl qunder)), (ap, .inr (2, [.int psq, .int ppa, .int ppe, .int pwo, .ref apk, .ref apq, .ref apr])), (apk, .inl (cI, 6, .inl pkind)), (apq, .inl (cI, 6, .inl pwsq)), (apr, .inl (cI, 6, .inl pwhr))] [(az, .inr (5, [.ref azh, .ref azb, .int zsize])), (azh, .inl (cI, 6, .inl zhour)), (azb, .inl (cI, 6, .inl zbeh)), (aq, .inr (1, [.ref ap, .int qgone, .int qmet, .int qstill, .int qdone, .ref aqh, .ref aqw, .ref aqs, .ref aqu])), (aqh, .inl (cI, 6, .inl qhour)), (aqw, .inl (cI, 6, .inl qworn)), (aqs, .inl (cI, 5, .inl qsquare)), (aqu, .inl (cI, 5, .inl qunder)), (ap, .inr (2, [.int psq, .int ppa, .int ppe, .int pwo, .ref apk, .ref apq, .ref apr])), (apk, .inl (cI, 6, .inl pkind)), (apq, .inl (cI, 6, .inl pwsq)), (apr, .inl (cI, 6, .inl pwhr))] rr := by
  refine CI.of (cc := cX5_fit) (nL := 5) (ret := (some .boolean)) (by decide) rfl (Nat.le_of_ble_eq_true rfl) ?_
  intro p e s m args below meth c A hC hP hD hS ls hl
  obtain ⟨hx, hb, hml, hown, hts, hr, hlk, hG, hA⟩ := id hC
  have hown : s.vm.findClass RX5 = some m.cls := hown
  have hK := hG.1
  have hl : lv_has ls 5 [(0, .ref az), (1, .ref aq), (2, .int u), (3, .int h)] := hl
  have k_f18 := hts (.fieldLink RX5 18 "ParasolHours$Sightings" "size" "I") (List.mem_of_getElem? (i := 1) rfl)
  have k_f15 := hts (.fieldLink RX5 15 "ParasolHours$Sightings" "behind" "[I") (List.mem_of_getElem? (i := 2) rfl)
  have k_st_at := hts (.static yX7_at) (List.mem_of_getElem? (i := 4) rfl)
  have k_in_X7 := hts (.initialized RX7) (List.mem_of_getElem? (i := 5) rfl)
  have k_f9 := hts (.fieldLink RX5 9 "ParasolHours$Sightings" "hour" "[I") (List.mem_of_getElem? (i := 3) rfl)
  have iX5 : ∀ w ∈ wsX50, w ∈ wsX5_fit := by decide +kernel
  obtain ⟨Q, hQ⟩ : ∃ Q, Q = MQ below (QI D [(az, .inr (5, [.ref azh, .ref azb, .int zsize])), (azh, .inl (cI, 6, .inl zhour)), (azb, .inl (cI, 6, .inl zbeh)), (aq, .inr (1, [.ref ap, .int qgone, .int qmet, .int qstill, .int qdone, .ref aqh, .ref aqw, .ref aqs, .ref aqu])), (aqh, .inl (cI, 6, .inl qhour)), (aqw, .inl (cI, 6, .inl qworn)), (aqs, .inl (cI, 5, .inl qsquare)), (aqu, .inl (cI, 5, .inl qunder)), (ap, .inr (2, [.int psq, .int ppa, .int ppe, .int pwo, .ref apk, .ref apq, .ref apr])), (apk, .inl (cI, 6, .inl pkind)), (apq, .inl (cI, 6, .inl pwsq)), (apr, .inl (cI, 6, .inl pwhr))] rr A) args s 0 0 A := ⟨_, rfl⟩
  rw [← hQ]
  unfold f_X5_fit at hF
  refine lv_iconst (v := (0 : Int32)) hx hb dX5_fit_0 (by decide) ?_
  refine lv_istore (lv' := [(4, .int (0 : Int32)), (0, .ref az), (1, .ref aq), (2, .int u), (3, .int h)]) hx hb dX5_fit_1 hl (by decide) rfl (fun ls hl => ?_)
  have hL3 : ∀ (k3 : Int32 → Option Int32), (∀ (v1 : Int32) (H : Heap) (locs : List Loc), va_P D vwCl [(az, .inr (5, [.ref azh, .ref azb, .int zsize])), (azh, .inl (cI, 6, .inl zhour)), (azb, .inl (cI, 6, .inl zbeh)), (aq, .inr (1, [.ref ap, .int qgone, .int qmet, .int qstill, .int qdone, .ref aqh, .ref aqw, .ref aqs, .ref aqu])), (aqh, .inl (cI, 6, .inl qhour)), (aqw, .inl (cI, 6, .inl qworn)), (aqs, .inl (cI, 5, .inl qsquare)), (aqu, .inl (cI, 5, .inl qunder)), (ap, .inr (2, [.int psq, .int ppa, .int ppe, .int pwo, .ref apk, .ref apq, .ref apr])), (apk, .inl (cI, 6, .inl pkind)), (apq, .inl (cI, 6, .inl pwsq)), (apr, .inl (cI, 6, .inl pwhr))] H → va_D A [(az, .inr (5, [.ref azh, .ref azb, .int zsize])), (azh, .inl (cI, 6, .inl zhour)), (azb, .inl (cI, 6, .inl zbeh)), (aq, .inr (1, [.ref ap, .int qgone, .int qmet, .int qstill, .int qdone, .ref aqh, .ref aqw, .ref aqs, .ref aqu])), (aqh, .inl (cI, 6, .inl qhour)), (aqw, .inl (cI, 6, .inl qworn)), (aqs, .inl (cI, 5, .inl qsquare)), (aqu, .inl (cI, 5, .inl qunder)), (ap, .inr (2, [.int psq, .int ppa, .int ppe, .int pwo, .ref apk, .ref apq, .ref apr])), (apk, .inl (cI, 6, .inl pkind)), (apq, .inl (cI, 6, .inl pwsq)), (apr, .inl (cI, 6, .inl pwhr))] → va_S A s.heap H locs → ∀ ls : Array Slot, lv_has ls 5 [] → k3 v1 = some rr → W p l e rm_X5_fit s m args below meth c H locs 0 0 Q (F0 m 47 ls [])) → ∀ (nf3 : Nat) (v1 : Int32) (H : Heap) (locs : List Loc), va_P D vwCl [(az, .inr (5, [.ref azh, .ref azb, .int zsize])), (azh, .inl (cI, 6, .inl zhour)), (azb, .inl (cI, 6, .inl zbeh)), (aq, .inr (1, [.ref ap, .int qgone, .int qmet, .int qstill, .int qdone, .ref aqh, .ref aqw, .ref aqs, .ref aqu])), (aqh, .inl (cI, 6, .inl qhour)), (aqw, .inl (cI, 6, .inl qworn)), (aqs, .inl (cI, 5, .inl qsquare)), (aqu, .inl (cI, 5, .inl qunder)), (ap, .inr (2, [.int psq, .int ppa, .int ppe, .int pwo, .ref apk, .ref apq, .ref apr])), (apk, .inl (cI, 6, .inl pkind)), (apq, .inl (cI, 6, .inl pwsq)), (apr, .inl (cI, 6, .inl pwhr))] H → va_D A [(az, .inr (5, [.ref azh, .ref azb, .int zsize])), (azh, .inl (cI, 6, .inl zhour)), (azb, .inl (cI, 6, .inl zbeh)), (aq, .inr (1, [.ref ap, .int qgone, .int qmet, .int qstill, .int qdone, .ref aqh, .ref aqw, .ref aqs, .ref aqu])), (aqh, .inl (cI, 6, .inl qhour)), (aqw, .inl (cI, 6, .inl qworn)), (aqs, .inl (cI, 5, .inl qsquare)), (aqu, .inl (cI, 5, .inl qunder)), (ap, .inr (2, [.int psq, .int ppa, .int ppe, .int pwo, .ref apk, .ref apq, .ref apr])), (apk, .inl (cI, 6, .inl pkind)), (apq, .inl (cI, 6, .inl pwsq)), (apr, .inl (cI, 6, .inl pwhr))] → va_S A s.heap H locs → ∀ ls : Array Slot, lv_has ls 5 [(4, .int v1), (0, .ref az), (1, .ref aq), (2, .int u), (3, .int h)] → f_X5_fit_L3 zsize zbeh qgone pkind u h zhour k3 nf3 v1 = some rr → W p l e rm_X5_fit s m args below meth c H locs 0 0 Q (F0 m 3 ls []) := by
    intro k3 hk3 nf3
    induction nf3 with
    | zero =>
      intro v1 H locs hP hD hS ls hl hF
      rw [f_X5_fit_L3_0] at hF
      cases hF
    | succ nf3 ih3 =>
      intro v1 H locs hP hD hS ls hl hF
      rw [f_X5_fit_L3_s] at hF
      refine lv_iload hx hb dX5_fit_3 (lv_at hl 0 rfl) ?_
      refine lv_aload_n hx hb dX5_fit_5 rfl (lv_at hl 1 rfl) ?_
      refine va_get (D := D) (ci := 5) (v := .int zsize) (C := RX5) (T := TX5) (N := 3) hx hb hts iX5 hown hK hP 0 rfl rfl 2 (by decide) k_f18 (fun _ h9 => h9) rfl dX5_fit_6 ?_
      refine lv_icmp_ge (tgt := 47) hx hb dX5_fit_9 (by decide) (fun c2 => ?_) (fun c2 => ?_)
      · have hF := op_pos c2 hF
        exact hk3 v1 _ _ hP hD hS _ (lv_sub hl [] rfl) hF
      · have hF := op_neg c2 hF
        refine lv_aload_n hx hb dX5_fit_12 rfl (lv_at hl 2 rfl) ?_
        refine lv_iload_n hx hb dX5_fit_13 rfl (lv_at hl 3 rfl) ?_
        refine lv_iload_n hx hb dX5_fit_14 rfl (lv_at hl 4 rfl) ?_
        refine lv_aload_n hx hb dX5_fit_15 rfl (lv_at hl 1 rfl) ?_
        refine va_get (D := D) (ci := 5) (v := .ref azb) (C := RX5) (T := TX5) (N := 3) hx hb hts iX5 hown hK hP 0 rfl rfl 1 (by decide) k_f15 (fun _ h9 => h9) rfl dX5_fit_16 ?_
        refine lv_iload hx hb dX5_fit_19 (lv_at hl 0 rfl) ?_
        obtain ⟨r3, hb4, hF⟩ := op_bind hF
        refine xNr (As := [.ref azb, .int v1]) (rest := [.int h, .int u, .ref aq]) hC hP hD hS [2] (c_X7_at l D cI cC cM azb 6 zbeh v1 r3 hb4) ⟨va_cnB 2 hts gX5_fit_X7_at_n26 rfl rfl rfl (hG.nw 23 rfl) k_in_X7 pd_X7_at ⟨Nat.le_of_ble_eq_true rfl, Nat.le_of_ble_eq_true rfl⟩, k_st_at, trivial⟩ rfl rfl rfl hl.1 rfl (Nat.le_of_ble_eq_true rfl) dX5_fit_21 ⟨Nat.zero_le _, Nat.zero_le _⟩ (fun H locs hP hS => ?_)
        obtain ⟨r5, hb6, hF⟩ := op_bind hF
        refine xVr (As := [.int u, .int h, .int r3]) (rest := []) hC hP hD hS [3, 4, 5, 6, 7, 8, 9, 10, 11] (c_X1_hourFrom l D cI cC cM aq aqh aqw aqs aqu ap apk apq apr qgone qmet qstill qdone qhour qworn qsquare qunder psq ppa ppe pwo pkind pwsq pwhr u h r3 r5 hb6) (cwV 3 hts gX5_fit_X1_hourFrom rfl rfl rfl ⟨rfl, pd_X1_hourFrom⟩ ⟨Nat.le_of_ble_eq_true rfl, Nat.le_of_ble_eq_true rfl⟩) rfl rfl 3 1 rfl rfl rfl rfl hl.1 rfl (Nat.le_of_ble_eq_true rfl) dX5_fit_24 ⟨Nat.zero_le _, Nat.zero_le _⟩ (fun H locs hP hS => ?_)
        refine lv_aload_n hx hb dX5_fit_27 rfl (lv_at hl 1 rfl) ?_
        refine va_get (D := D) (ci := 5) (v := .ref azh) (C := RX5) (T := TX5) (N := 3) hx hb hts iX5 hown hK hP 0 rfl rfl 0 (by decide) k_f9 (fun _ h9 => h9) rfl dX5_fit_28 ?_
        refine lv_iload hx hb dX5_fit_31 (lv_at hl 0 rfl) ?_
        obtain ⟨r7, hb8, hF⟩ := op_bind hF
        refine xNr (As := [.ref azh, .int v1]) (rest := [.int r5]) hC hP hD hS [1] (c_X7_at l D cI cC cM azh 6 zhour v1 r7 hb8) ⟨va_cnB 2 hts gX5_fit_X7_at_n26 rfl rfl rfl (hG.nw 23 rfl) k_in_X7 pd_X7_at ⟨Nat.le_of_ble_eq_true rfl, Nat.le_of_ble_eq_true rfl⟩, k_st_at, trivial⟩ rfl rfl rfl hl.1 rfl (Nat.le_of_ble_eq_true rfl) dX5_fit_33 ⟨Nat.zero_le _, Nat.zero_le _⟩ (fun H locs hP hS => ?_)
        refine lv_icmp_eq (tgt := 41) hx hb dX5_fit_36 (by decide) (fun c9 => ?_) (fun c9 => ?_)
        · have hF := op_pos c9 hF
          refine lv_iinc (v := (v1 + (1 : Int32))) (lv' := [(4, .int (v1 + (1 : Int32))), (0, .ref az), (1, .ref aq), (2, .int u), (3, .int h)]) hx hb dX5_fit_41 hl (k := 0) rfl (by first | rfl | decide) (by decide) rfl (fun ls hl => ?_)
          refine lv_goto (tgt := 3) hx hb dX5_fit_44 (by decide) ?_
          exact ih3 (v1 + (1 : Int32)) _ _ hP hD hS _ (lv_sub hl [0, 1, 2, 3, 4] rfl) hF
        · have hF := op_neg c9 hF
          refine lv_iconst (v := (0 : Int32)) hx hb dX5_fit_39 (by decide) ?_
          cases hF
          rw [hQ]
          exact xrz hC rfl hP hS dX5_fit_40
  refine hL3 _ (fun v1 H locs hP hD hS ls hl hF => ?_) 20000 (0 : Int32) _ _ hP hD hS _ (lv_sub hl [0, 1, 2, 3, 4] rfl) hF
  refine lv_iconst (v := (1 : Int32)) hx hb dX5_fit_47 (by decide) ?_
  cases hF
  rw [hQ]
  exact xrz hC rfl hP hS dX5_fit_48
