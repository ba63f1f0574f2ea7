def f_X8_in (i : Int32) (j : Int32) (k : Int32) : Option Int32 := (if i < j then (some (0 : Int32)) else (if k < i then (some (0 : Int32)) else (some (1 : Int32))))

def rm_X8_in : Room := { frames := 0, cells := 0, slots := 0, locals := 0 }

theorem pd_X8_in : yX8_in.cls ≠ "java/lang/invoke/MethodHandle" ∧ yX8_in.cls ≠ "java/lang/invoke/VarHandle" ∧ (parseMethodDescriptor yX8_in.desc).map (fun d => d.parameters.length) = some 3 := by decide +kernel

set_option maxHeartbeats 4000000 in
set_option maxRecDepth 100000 in
theorem c_X8_in (l : Launch) (D : va_G) (cI cC cM : ClassId) (i : Int32) (j : Int32) (k : Int32) (rr : Int32) (hF : f_X8_in i j k = some rr) : CI l D cI cC cM yX8_in wsX8_in rm_X8_in [.int i, .int j, .int k] [] [] rr := by
  refine CI.of (cc := cX8_in) (nL := 3) (ret := (some .boolean)) (by decide) rfl (Nat.le_of_ble_eq_true rfl) ?_
  intro p e s m args below meth c A hC hP hD hS ls hl
  obtain ⟨hx, hb, hml, hown, hts, hr, hlk, hG, hA⟩ := id hC
  have hown : s.vm.findClass RX8 = some m.cls := hown
  have hK := hG.1
  have hl : lv_has ls 3 [(0, .int i), (1, .int j), (2, .int k)] := hl
  obtain ⟨Q, hQ⟩ : ∃ Q, Q = MQ below (QI D [] rr A) args s 0 0 A := ⟨_, rfl⟩
  rw [← hQ]
  unfold f_X8_in at hF
  refine lv_iload_n hx hb dX8_in_0 rfl (lv_at hl 0 rfl) ?_
  refine lv_iload_n hx hb dX8_in_1 rfl (lv_at hl 1 rfl) ?_
  refine lv_icmp_lt (tgt := 14) hx hb dX8_in_2 (by decide) (fun c1 => ?_) (fun c1 => ?_)
  · have hF := op_pos c1 hF
    refine lv_iconst (v := (0 : Int32)) hx hb dX8_in_14 (by decide) ?_
    cases hF
    rw [hQ]
    exact xrz hC rfl hP hS dX8_in_15
  · have hF := op_neg c1 hF
    refine lv_iload_n hx hb dX8_in_5 rfl (lv_at hl 0 rfl) ?_
    refine lv_iload_n hx hb dX8_in_6 rfl (lv_at hl 2 rfl) ?_
    refine lv_icmp_gt (tgt := 14) hx hb dX8_in_7 (by decide) (fun c2 => ?_) (fun c2 => ?_)
    · have hF := op_pos c2 hF
      refine lv_iconst (v := (0 : Int32)) hx hb dX8_in_14 (by decide) ?_
      cases hF
      rw [hQ]
      exact xrz hC rfl hP hS dX8_in_15
    · have hF := op_neg c2 hF
      refine lv_iconst (v := (1 : Int32)) hx hb dX8_in_10 (by decide) ?_
      refine lv_goto (tgt := 15) hx hb dX8_in_11 (by decide) ?_
      cases hF
      rw [hQ]
      exact xrz hC rfl hP hS dX8_in_15

def f_X8_has (i : Int32) (k : Int32) : Option Int32 := (if ((i >>> (k &&& 31)) &&& (1 : Int32)) = (1 : Int32) then (some (1 : Int32)) else (some (0 : Int32)))

def rm_X8_has : Room := { frames := 0, cells := 0, slots := 0, locals := 0 }

theorem pd_X8_has : yX8_has.cls ≠ "java/lang/invoke/MethodHandle" ∧ yX8_has.cls ≠ "java/lang/invoke/VarHandle" ∧ (parseMethodDescriptor yX8_has.desc).map (fun d => d.parameters.length) = some 2 := by decide +kernel

set_option maxHeartbeats 4000000 in
set_option maxRecDepth 100000 in
theorem c_X8_has (l : Launch) (D : va_G) (cI cC cM : ClassId) (i : Int32) (k : Int32) (rr : Int32) (hF : f_X8_has i k = some rr) : CI l D cI cC cM yX8_has wsX8_has rm_X8_has [.int i, .int k] [] [] rr := by
  refine CI.of (cc := cX8_has) (nL := 2) (ret := (some .boolean)) (by decide) rfl (Nat.le_of_ble_eq_true rfl) ?_
  intro p e s m args below meth c A hC hP hD hS ls hl
  obtain ⟨hx, hb, hml, hown, hts, hr, hlk, hG, hA⟩ := id hC
  have hown : s.vm.findClass RX8 = some m.cls := hown
  have hK := hG.1
  have hl : lv_has ls 2 [(0, .int i), (1, .int k)] := hl
  obtain ⟨Q, hQ⟩ : ∃ Q, Q = MQ below (QI D [] rr A) args s 0 0 A := ⟨_, rfl⟩
  rw [← hQ]
  unfold f_X8_has at hF
  refine lv_iload_n hx hb dX8_has_0 rfl (lv_at hl 0 rfl) ?_
  refine lv_iload_n hx hb dX8_has_1 rfl (lv_at hl 1 rfl) ?_
  refine lv_ishr hx hb dX8_has_2 ?_
  refine lv_iconst (v := (1 : Int32)) hx hb dX8_has_3 (by decide) ?_
  refine lv_iand hx hb dX8_has_4 ?_
  refine lv_iconst (v := (1 : Int32)) hx hb dX8_has_5 (by decide) ?_
  refine lv_icmp_ne (tgt := 13) hx hb dX8_has_6 (by decide) (fun c1 => ?_) (fun c1 => ?_)
  · have hF := op_neg c1 hF
    refine lv_iconst (v := (0 : Int32)) hx hb dX8_has_13 (by decide) ?_
    cases hF
    rw [hQ]
    exact xrz hC rfl hP hS dX8_has_14
  · have hF := op_pos c1 hF
    refine lv_iconst (v := (1 : Int32)) hx hb dX8_has_9 (by decide) ?_
    refine lv_goto (tgt := 14) hx hb dX8_has_10 (by decide) ?_
    cases hF
    rw [hQ]
    exact xrz hC rfl hP hS dX8_has_14

def f_X8_bits_L4  (k4 : Int32 → Int32 → Option Int32) : Nat → Int32 → Int32 → Option Int32
  | 0, _, _ => none
  | nf4 + 1, v1, v2 => (if v2 = 0 then (k4 v1 v2) else (f_X8_bits_L4 k4 nf4 (v1 + (1 : Int32)) (v2 &&& (v2 - (1 : Int32)))))
theorem f_X8_bits_L4_0  (k4 : Int32 → Int32 → Option Int32) (v1 : Int32) (v2 : Int32) : f_X8_bits_L4 k4 0 v1 v2 = none := rfl
theorem f_X8_bits_L4_s  (k4 : Int32 → Int32 → Option Int32) (nf4 : Nat) (v1 : Int32) (v2 : Int32) : f_X8_bits_L4 k4 (nf4 + 1) v1 v2 = (if v2 = 0 then (k4 v1 v2) else (f_X8_bits_L4 k4 nf4 (v1 + (1 : Int32)) (v2 &&& (v2 - (1 : Int32))))) := rfl

def f_X8_bits (i : Int32) : Option Int32 := (f_X8_bits_L4 (fun (v1 : Int32) (v2 : Int32) => (some v1)) 20000 (0 : Int32) i)

def rm_X8_bits : Room := { frames := 0, cells := 0, slots := 0, locals := 0 }

theorem pd_X8_bits : yX8_bits.cls ≠ "java/lang/invoke/MethodHandle" ∧ yX8_bits.cls ≠ "java/lang/invoke/VarHandle" ∧ (parseMethodDescriptor yX8_bits.desc).map (fun d => d.parameters.length) = some 1 := by decide +kernel

set_option maxHeartbeats 4000000 in
set_option maxRecDepth 100000 in
theorem c_X8_bits (l : Launch) (D : va_G) (cI cC cM : ClassId) (i : Int32) (rr : Int32) (hF : f_X8_bits i = some rr) : CI l D cI cC cM yX8_bits wsX8_bits rm_X8_bits [.int i] [] [] rr := by
  refine CI.of (cc := cX8_bits) (nL := 3) (ret := (some .int)) (by decide) rfl (Nat.le_of_ble_eq_true rfl) ?_
  intro p e s m args below meth c A hC hP hD hS ls hl
  obtain ⟨hx, hb, hml, hown, hts, hr, hlk, hG, hA⟩ := id hC
  have hown : s.vm.findClass RX8 = some m.cls := hown
  have hK := hG.1
  have hl : lv_has ls 3 [(0, .int i)] := hl
  obtain ⟨Q, hQ⟩ : ∃ Q, Q = MQ below (QI D [] rr A) args s 0 0 A := ⟨_, rfl⟩
  rw [← hQ]
  unfold f_X8_bits at hF
  refine lv_iconst (v := (0 : Int32)) hx hb dX8_bits_0 (by decide) ?_
  refine lv_istore_n (lv' := [(1, .int (0 : Int32)), (0, .int i)]) hx hb dX8_bits_1 rfl hl (by decide) rfl (fun ls hl => ?_)
  refine lv_iload_n hx hb dX8_bits_2 rfl (lv_at hl 1 rfl) ?_
  refine lv_istore_n (lv' := [(2, .int i), (1, .int (0 : Int32)), (0, .int i)]) hx hb dX8_bits_3 rfl hl (by decide) rfl (fun ls hl => ?_)
  have hL4 : ∀ (k4 : Int32 → Int32 → Option Int32), (∀ (v1 : Int32) (v2 : Int32) (H : Heap) (locs : List Loc), va_P D vwCl [] H → va_D A [] → va_S A s.heap H locs → ∀ ls : Array Slot, lv_has ls 3 [(1, .int v1)] → k4 v1 v2 = some rr → W p l e rm_X8_bits s m args below meth c H locs 0 0 Q (F0 m 20 ls [])) → ∀ (nf4 : Nat) (v1 : Int32) (v2 : Int32) (H : Heap) (locs : List Loc), va_P D vwCl [] H → va_D A [] → va_S A s.heap H locs → ∀ ls : Array Slot, lv_has ls 3 [(2, .int v2), (1, .int v1)] → f_X8_bits_L4 k4 nf4 v1 v2 = some rr → W p l e rm_X8_bits s m args below meth c H locs 0 0 Q (F0 m 4 ls []) := by
    intro k4 hk4 nf4
    induction nf4 with
    | zero =>
      intro v1 v2 H locs hP hD hS ls hl hF
      rw [f_X8_bits_L4_0] at hF
      cases hF
    | succ nf4 ih4 =>
      intro v1 v2 H locs hP hD hS ls hl hF
      rw [f_X8_bits_L4_s] at hF
      refine lv_iload_n hx hb dX8_bits_4 rfl (lv_at hl 0 rfl) ?_
      refine lv_if_eq (tgt := 20) hx hb dX8_bits_5 (by decide) (fun c3 => ?_) (fun c3 => ?_)
      · have hF := op_pos c3 hF
        exact hk4 v1 v2 _ _ hP hD hS _ (lv_sub hl [1] rfl) hF
      · have hF := op_neg c3 hF
        refine lv_iinc (v := (v1 + (1 : Int32))) (lv' := [(1, .int (v1 + (1 : Int32))), (2, .int v2)]) hx hb dX8_bits_8 hl (k := 1) rfl (by first | rfl | decide) (by decide) rfl (fun ls hl => ?_)
        refine lv_iload_n hx hb dX8_bits_11 rfl (lv_at hl 1 rfl) ?_
        refine lv_iload_n hx hb dX8_bits_12 rfl (lv_at hl 1 rfl) ?_
        refine lv_iconst (v := (1 : Int32)) hx hb dX8_bits_13 (by decide) ?_
        refine lv_isub hx hb dX8_bits_14 ?_
        refine lv_iand hx hb dX8_bits_15 ?_
        refine lv_istore_n (lv' := [(2, .int (v2 &&& (v2 - (1 : Int32)))), (1, .int (v1 + (1 : Int32)))]) hx hb dX8_bits_16 rfl hl (by decide) rfl (fun ls hl => ?_)
        refine lv_goto (tgt := 4) hx hb dX8_bits_17 (by decide) ?_
        exact ih4 (v1 + (1 : Int32)) (v2 &&& (v2 - (1 : Int32))) _ _ hP hD hS _ (lv_sub hl [0, 1] rfl) hF
  refine hL4 _ (fun v1 v2 H locs hP hD hS ls hl hF => ?_) 20000 (0 : Int32) i _ _ hP hD hS _ (lv_sub hl [0, 1] rfl) hF
  refine lv_iload_n hx hb dX8_bits_20 rfl (lv_at hl 0 rfl) ?_
  cases hF
  rw [hQ]
  exact xri hC hP hS dX8_bits_21

def f_X8_isFigure (i : Int32) : Option Int32 := (Option.bind (f_X8_in i (48 : Int32) (57 : Int32)) fun r1 => (if okz r1 = true then (some r1) else none))

def rm_X8_isFigure : Room := { frames := 1, cells := 0, slots := 0, locals := 22 }

theorem pd_X8_isFigure : yX8_isFigure.cls ≠ "java/lang/invoke/MethodHandle" ∧ yX8_isFigure.cls ≠ "java/lang/invoke/VarHandle" ∧ (parseMethodDescriptor yX8_isFigure.desc).map (fun d => d.parameters.length) = some 1 := by decide +kernel

set_option maxHeartbeats 4000000 in
set_option maxRecDepth 100000 in
theorem c_X8_isFigure (l : Launch) (D : va_G) (cI cC cM : ClassId) (i : Int32) (rr : Int32) (hF : f_X8_isFigure i = some rr) : CI l D cI cC cM yX8_isFigure wsX8_isFigure rm_X8_isFigure [.int i] [] [] rr := by
  refine CI.of (cc := cX8_isFigure) (nL := 1) (ret := (some .boolean)) (by decide) rfl (Nat.le_of_ble_eq_true rfl) ?_
  intro p e s m args below meth c A hC hP hD hS ls hl
  obtain ⟨hx, hb, hml, hown, hts, hr, hlk, hG, hA⟩ := id hC
  have hown : s.vm.findClass RX8 = some m.cls := hown
  have hK := hG.1
  have hl : lv_has ls 1 [(0, .int i)] := hl
  obtain ⟨Q, hQ⟩ : ∃ Q, Q = MQ below (QI D [] rr A) args s 0 0 A := ⟨_, rfl⟩
  rw [← hQ]
  unfold f_X8_isFigure at hF
  refine lv_iload_n hx hb dX8_isFigure_0 rfl (lv_at hl 0 rfl) ?_
  refine lv_bipush (v := (48 : Int32)) hx hb dX8_isFigure_1 (by decide) ?_
  refine lv_bipush (v := (57 : Int32)) hx hb dX8_isFigure_3 (by decide) ?_
  obtain ⟨r1, hb2, hF⟩ := op_bind hF
  refine xSr (As := [.int i, .int (48 : Int32), .int (57 : Int32)]) (rest := []) hC hP hD hS [] (c_X8_in l D cI cC cM i (48 : Int32) (57 : Int32) r1 hb2) (va_cwS 3 hts gX8_isFigure_X8_in rfl rfl rfl pd_X8_in ⟨Nat.le_of_ble_eq_true rfl, Nat.le_of_ble_eq_true rfl⟩) rfl rfl rfl hl.1 rfl (Nat.le_of_ble_eq_true rfl) dX8_isFigure_5 ⟨Nat.zero_le _, Nat.zero_le _⟩ (fun H locs hP hS => ?_)
  obtain ⟨z3, hF⟩ := op_ob hF
  cases hF
  rw [hQ]
  exact xrz hC (okz_n z3) hP hS dX8_isFigure_8

def f_X8_isHour (i : Int32) : Option Int32 := (Option.bind (f_X8_in i (0 : Int32) (23 : Int32)) fun r1 => (if okz r1 = true then (some r1) else none))

def rm_X8_isHour : Room := { frames := 1, cells := 0, slots := 0, locals := 22 }

theorem pd_X8_isHour : yX8_isHour.cls ≠ "java/lang/invoke/MethodHandle" ∧ yX8_isHour.cls ≠ "java/lang/invoke/VarHandle" ∧ (parseMethodDescriptor yX8_isHour.desc).map (fun d => d.parameters.length) = some 1 := by decide +kernel

set_option maxHeartbeats 4000000 in
set_option maxRecDepth 100000 in
theorem c_X8_isHour (l : Launch) (D : va_G) (cI cC cM : ClassId) (i : Int32) (rr : Int32) (hF : f_X8_isHour i = some rr) : CI l D cI cC cM yX8_isHour wsX8_isHour rm_X8_isHour [.int i] [] [] rr := by
  refine CI.of (cc := cX8_isHour) (nL := 1) (ret := (some .boolean)) (by decide) rfl (Nat.le_of_ble_eq_true rfl) ?_
  intro p e s m args below meth c A hC hP hD hS ls hl
  obtain ⟨hx, hb, hml, hown, hts, hr, hlk, hG, hA⟩ := id hC
  have hown : s.vm.findClass RX8 = some m.cls := hown
  have hK := hG.1
  have hl : lv_has ls 1 [(0, .int i)] := hl
  obtain ⟨Q, hQ⟩ : ∃ Q, Q = MQ below (QI D [] rr A) args s 0 0 A := ⟨_, rfl⟩
  rw [← hQ]
  unfold f_X8_isHour at hF
  refine lv_iload_n hx hb dX8_isHour_0 rfl (lv_at hl 0 rfl) ?_
  refine lv_iconst (v := (0 : Int32)) hx hb dX8_isHour_1 (by decide) ?_
  refine lv_bipush (v := (23 : Int32)) hx hb dX8_isHour_2 (by decide) ?_
  obtain ⟨r1, hb2, hF⟩ := op_bind hF
  refine xSr (As := [.int i, .int (0 : Int32), .int (23 : Int32)]) (rest := []) hC hP hD hS [] (c_X8_in l D cI cC cM i (0 : Int32) (23 : Int32) r1 hb2) (va_cwS 3 hts gX8_isHour_X8_in rfl rfl rfl pd_X8_in ⟨Nat.le_of_ble_eq_true rfl, Nat.le_of_ble_eq_true rfl⟩) rfl rfl rfl hl.1 rfl (Nat.le_of_ble_eq_true rfl) dX8_isHour_4 ⟨Nat.zero_le _, Nat.zero_le _⟩ (fun H locs hP hS => ?_)
  obtain ⟨z3, hF⟩ := op_ob hF
  cases hF
  rw [hQ]
  exact xrz hC (okz_n z3) hP hS dX8_isHour_7

def f_X8_clock (o : (Nat → Int32)) (i : Int32) (u : Int32) : Option Int32 := (if u = (-4 : Int32) then (if i = 0 then (some (-4 : Int32)) else (some (12 : Int32))) else (if okb ((10 : Int32) + u) 26 = true then (if (12 : Int32) < (o ((10 : Int32) + u).toNatClampNeg) then (some (12 : Int32)) else (if okb ((4 : Int32) + u) 26 = true then (some (o ((4 : Int32) + u).toNatClampNeg)) else none)) else none))

def rm_X8_clock : Room := { frames := 0, cells := 0, slots := 0, locals := 0 }

theorem pd_X8_clock : yX8_clock.cls ≠ "java/lang/invoke/MethodHandle" ∧ yX8_clock.cls ≠ "java/lang/invoke/VarHandle" ∧ (parseMethodDescriptor yX8_clock.desc).map (fun d => d.parameters.length) = some 3 := by decide +kernel

set_option maxHeartbeats 4000000 in
set_option maxRecDepth 100000 in
theorem c_X8_clock (l : Launch) (D : va_G) (cI cC cM : ClassId) (a_of : Nat) (o : (Nat → Int32)) (i : Int32) (u : Int32) (rr : Int32) (hF : f_X8_clock o i u = some rr) : CI l D cI cC cM yX8_clock wsX8_clock rm_X8_clock [.ref a_of, .int i, .int u] [(a_of, .inl (cI, 26, .inl o))] [(a_of, .inl (cI, 26, .inl o))] rr := by
  refine CI.of (cc := cX8_clock) (nL := 3) (ret := (some .int)) (by decide) rfl (Nat.le_of_ble_eq_true rfl) ?_
  intro p e s m args below meth c A hC hP hD hS ls hl
  obtain ⟨hx, hb, hml, hown, hts, hr, hlk, hG, hA⟩ := id hC
  have hown : s.vm.findClass RX8 = some m.cls := hown
  have hK := hG.1
  have hl : lv_has ls 3 [(0, .ref a_of), (1, .int i), (2, .int u)] := hl
  obtain ⟨Q, hQ⟩ : ∃ Q, Q = MQ below (QI D [(a_of, .inl (cI, 26, .inl o))] rr A) args s 0 0 A := ⟨_, rfl⟩
  rw [← hQ]
  unfold f_X8_clock at hF
  refine lv_iload_n hx hb dX8_clock_0 rfl (lv_at hl 2 rfl) ?_
  refine lv_bipush (v := (-4 : Int32)) hx hb dX8_clock_1 (by decide) ?_
  refine lv_icmp_ne (tgt := 18) hx hb dX8_clock_3 (by decide) (fun c1 => ?_) (fun c1 => ?_)
  · have hF := op_neg c1 hF
    refine lv_aload_n hx hb dX8_clock_18 rfl (lv_at hl 0 rfl) ?_
    refine lv_bipush (v := (10 : Int32)) hx hb dX8_clock_19 (by decide) ?_
    refine lv_iload_n hx hb dX8_clock_21 rfl (lv_at hl 2 rfl) ?_
    refine lv_iadd hx hb dX8_clock_22 ?_
    obtain ⟨o2, hF⟩ := op_ob hF
    refine va_iald hx hb hK hP 0 0 rfl rfl (okb_in o2) dX8_clock_23 ?_
    refine lv_bipush (v := (12 : Int32)) hx hb dX8_clock_24 (by decide) ?_
    refine lv_icmp_gt (tgt := 37) hx hb dX8_clock_26 (by decide) (fun c3 => ?_) (fun c3 => ?_)
    · have hF := op_pos c3 hF
      refine lv_bipush (v := (12 : Int32)) hx hb dX8_clock_37 (by decide) ?_
      cases hF
      rw [hQ]
      exact xri hC hP hS dX8_clock_39
    · have hF := op_neg c3 hF
      refine lv_aload_n hx hb dX8_clock_29 rfl (lv_at hl 0 rfl) ?_
      refine lv_iconst (v := (4 : Int32)) hx hb dX8_clock_30 (by decide) ?_
      refine lv_iload_n hx hb dX8_clock_31 rfl (lv_at hl 2 rfl) ?_
      refine lv_iadd hx hb dX8_clock_32 ?_
      obtain ⟨o4, hF⟩ := op_ob hF
      refine va_iald hx hb hK hP 0 0 rfl rfl (okb_in o4) dX8_clock_33 ?_
      refine lv_goto (tgt := 39) hx hb dX8_clock_34 (by decide) ?_
      cases hF
      rw [hQ]
      exact xri hC hP hS dX8_clock_39
  · have hF := op_pos c1 hF
    refine lv_iload_n hx hb dX8_clock_6 rfl (lv_at hl 1 rfl) ?_
    refine lv_if_ne (tgt := 15) hx hb dX8_clock_7 (by decide) (fun c5 => ?_) (fun c5 => ?_)
    · have hF := op_neg c5 hF
      refine lv_bipush (v := (12 : Int32)) hx hb dX8_clock_15 (by decide) ?_
      cases hF
      rw [hQ]
      exact xri hC hP hS dX8_clock_17
    · have hF := op_pos c5 hF
      refine lv_bipush (v := (-4 : Int32)) hx hb dX8_clock_10 (by decide) ?_
      refine lv_goto (tgt := 17) hx hb dX8_clock_12 (by decide) ?_
      cases hF
      rw [hQ]
      exact xri hC hP hS dX8_clock_17

def f_X8_time (o : (Nat → Int32)) (i : Int32) : Option Int32 := (if okb ((16 : Int32) + i) 26 = true then (if okb ((21 : Int32) + i) 26 = true then (Option.bind (f_X8_clock o (o ((16 : Int32) + i).toNatClampNeg) (o ((21 : Int32) + i).toNatClampNeg)) fun r3 => (some r3)) else none) else none)

def rm_X8_time : Room := { frames := 1, cells := 0, slots := 0, locals := 22 }

theorem pd_X8_time : yX8_time.cls ≠ "java/lang/invoke/MethodHandle" ∧ yX8_time.cls ≠ "java/lang/invoke/VarHandle" ∧ (parseMethodDescriptor yX8_time.desc).map (fun d => d.parameters.length) = some 2 := by decide +kernel

set_option maxHeartbeats 4000000 in
set_option maxRecDepth 100000 in
theorem c_X8_time (l : Launch) (D : va_G) (cI cC cM : ClassId) (a_of : Nat) (o : (Nat → Int32)) (i : Int32) (rr : Int32) (hF : f_X8_time o i = some rr) : CI l D cI cC cM yX8_time wsX8_time rm_X8_time [.ref a_of, .int i] [(a_of, .inl (cI, 26, .inl o))] [(a_of, .inl (cI, 26, .inl o))] rr := by
  refine CI.of (cc := cX8_time) (nL := 2) (ret := (some .int)) (by decide) rfl (Nat.le_of_ble_eq_true rfl) ?_
  intro p e s m args below meth c A hC hP hD hS ls hl
  obtain ⟨hx, hb, hml, hown, hts, hr, hlk, hG, hA⟩ := id hC
  have hown : s.vm.findClass RX8 = some m.cls := hown
  have hK := hG.1
  have hl : lv_has ls 2 [(0, .ref a_of), (1, .int i)] := hl
  obtain ⟨Q, hQ⟩ : ∃ Q, Q = MQ below (QI D [(a_of, .inl (cI, 26, .inl o))] rr A) args s 0 0 A := ⟨_, rfl⟩
  rw [← hQ]
  unfold f_X8_time at hF
  refine lv_aload_n hx hb dX8_time_0 rfl (lv_at hl 0 rfl) ?_
  refine lv_aload_n hx hb dX8_time_1 rfl (lv_at hl 0 rfl) ?_
  refine lv_bipush (v := (16 : Int32)) hx hb dX8_time_2 (by decide) ?_
  refine lv_iload_n hx hb dX8_time_4 rfl (lv_at hl 1 rfl) ?_
  refine lv_iadd hx hb dX8_time_5 ?_
  obtain ⟨o1, hF⟩ := op_ob hF
  refine va_iald hx hb hK hP 0 0 rfl rfl (okb_in o1) dX8_time_6 ?_
  refine lv_aload_n hx hb dX8_time_7 rfl (lv_at hl 0 rfl) ?_
  refine lv_bipush (v := (21 : Int32)) hx hb dX8_time_8 (by decide) ?_
  refine lv_iload_n hx hb dX8_time_10 rfl (lv_at hl 1 rfl) ?_
  refine lv_iadd hx hb dX8_time_11 ?_
  obtain ⟨o2, hF⟩ := op_ob hF
  refine va_iald hx hb hK hP 0 0 rfl rfl (okb_in o2) dX8_time_12 ?_
  obtain ⟨r3, hb4, hF⟩ := op_bind hF
  refine xSr (As := [.ref a_of, .int (o ((16 : Int32) + i).toNatClampNeg), .int (o ((21 : Int32) + i).toNatClampNeg)]) (rest := []) hC hP hD hS [0] (c_X8_clock l D cI cC cM a_of o (o ((16 : Int32) + i).toNatClampNeg) (o ((21 : Int32) + i).toNatClampNeg) r3 hb4) (va_cwS 3 hts gX8_time_X8_clock rfl rfl rfl pd_X8_clock ⟨Nat.le_of_ble_eq_true rfl, Nat.le_of_ble_eq_true rfl⟩) rfl rfl rfl hl.1 rfl (Nat.le_of_ble_eq_true rfl) dX8_time_13 ⟨Nat.zero_le _, Nat.zero_le _⟩ (fun H locs hP hS => ?_)
  cases hF
  rw [hQ]
  exact xri hC hP hS dX8_time_16

def f_X8_hasShade (o : (Nat → Int32)) (i : Int32) : Option Int32 := (if okb ((21 : Int32) + i) 26 = true then (if okb ((16 : Int32) + i) 26 = true then (if (o ((16 : Int32) + i).toNatClampNeg) = 0 then (some (1 : Int32)) else (if (o ((21 : Int32) + i).toNatClampNeg) = (-4 : Int32) then (some (0 : Int32)) else (if okb ((10 : Int32) + (o ((21 : Int32) + i).toNatClampNeg)) 26 = true then (if (12 : Int32) < (o ((10 : Int32) + (o ((21 : Int32) + i).toNatClampNeg)).toNatClampNeg) then (some (0 : Int32)) else (some (1 : Int32))) else none))) else none) else none)

def rm_X8_hasShade : Room := { frames := 0, cells := 0, slots := 0, locals := 0 }

theorem pd_X8_hasShade : yX8_hasShade.cls ≠ "java/lang/invoke/MethodHandle" ∧ yX8_hasShade.cls ≠ "java/lang/invoke/VarHandle" ∧ (parseMethodDescriptor yX8_hasShade.desc).map (fun d => d.parameters.length) = some 2 := by decide +kernel

set_option maxHeartbeats 4000000 in
set_option maxRecDepth 100000 in
theorem c_X8_hasShade (l : Launch) (D : va_G) (cI cC cM : ClassId) (a_of : Nat) (o : (Nat → Int32)) (i : Int32) (rr : Int32) (hF : f_X8_hasShade o i = some rr) : CI l D cI cC cM yX8_hasShade wsX8_hasShade rm_X8_hasShade [.ref a_of, .int i] [(a_of, .inl (cI, 26, .inl o))] [(a_of, .inl (cI, 26, .inl o))] rr := by
  refine CI.of (cc := cX8_hasShade) (nL := 3) (ret := (some .boolean)) (by decide) rfl (Nat.le_of_ble_eq_true rfl) ?_
  intro p e s m args below meth c A hC hP hD hS ls hl
  obtain ⟨hx, hb, hml, hown, hts, hr, hlk, hG, hA⟩ := id hC
  have hown : s.vm.findClass RX8 = some m.cls := hown
  have hK := hG.1
  have hl : lv_has ls 3 [(0, .ref a_of), (1, .int i)] := hl
  obtain ⟨Q, hQ⟩ : ∃ Q, Q = MQ below (QI D [(a_of, .inl (cI, 26, .inl o))] rr A) args s 0 0 A := ⟨_, rfl⟩
  rw [← hQ]
  unfold f_X8_hasShade at hF
  refine lv_aload_n hx hb dX8_hasShade_0 rfl (lv_at hl 0 rfl) ?_
  refine lv_bipush (v := (21 : Int32)) hx hb dX8_hasShade_1 (by decide) ?_
  refine lv_iload_n hx hb dX8_hasShade_3 rfl (lv_at hl 1 rfl) ?_
  refine lv_iadd hx hb dX8_hasShade_4 ?_
  obtain ⟨o1, hF⟩ := op_ob hF
  refine va_iald hx hb hK hP 0 0 rfl rfl (okb_in o1) dX8_hasShade_5 ?_
  refine lv_istore_n (lv' := [(2, .int (o ((21 : Int32) + i).toNatClampNeg)), (0, .ref a_of), (1, .int i)]) hx hb dX8_hasShade_6 rfl hl (by decide) rfl (fun ls hl => ?_)
  refine lv_aload_n hx hb dX8_hasShade_7 rfl (lv_at hl 1 rfl) ?_
  refine lv_bipush (v := (16 : Int32)) hx hb dX8_hasShade_8 (by decide) ?_
  refine lv_iload_n hx hb dX8_hasShade_10 rfl (lv_at hl 2 rfl) ?_
  refine lv_iadd hx hb dX8_hasShade_11 ?_
  obtain ⟨o2, hF⟩ := op_ob hF
  refine va_iald hx hb hK hP 0 0 rfl rfl (okb_in o2) dX8_hasShade_12 ?_
  refine lv_if_eq (tgt := 33) hx hb dX8_hasShade_13 (by decide) (fun c3 => ?_) (fun c3 => ?_)
  · have hF := op_pos c3 hF
    refine lv_iconst (v := (1 : Int32)) hx hb dX8_hasShade_33 (by decide) ?_
    refine lv_goto (tgt := 38) hx hb dX8_hasShade_34 (by decide) ?_
    cases hF
    rw [hQ]
    exact xrz hC rfl hP hS dX8_hasShade_38
  · have hF := op_neg c3 hF
    refine lv_iload_n hx hb dX8_hasShade_16 rfl (lv_at hl 0 rfl) ?_
    refine lv_bipush (v := (-4 : Int32)) hx hb dX8_hasShade_17 (by decide) ?_
    refine lv_icmp_eq (tgt := 37) hx hb dX8_hasShade_19 (by decide) (fun c4 => ?_) (fun c4 => ?_)
    · have hF := op_pos c4 hF
      refine lv_iconst (v := (0 : Int32)) hx hb dX8_hasShade_37 (by decide) ?_
      cases hF
      rw [hQ]
      exact xrz hC rfl hP hS dX8_hasShade_38
    · have hF := op_neg c4 hF
      refine lv_aload_n hx hb dX8_hasShade_22 rfl (lv_at hl 1 rfl) ?_
      refine lv_bipush (v := (10 : Int32)) hx hb dX8_hasShade_23 (by decide) ?_
      refine lv_iload_n hx hb dX8_hasShade_25 rfl (lv_at hl 0 rfl) ?_
      refine lv_iadd hx hb dX8_hasShade_26 ?_
      obtain ⟨o5, hF⟩ := op_ob hF
      refine va_iald hx hb hK hP 0 0 rfl rfl (okb_in o5) dX8_hasShade_27 ?_
      refine lv_bipush (v := (12 : Int32)) hx hb dX8_hasShade_28 (by decide) ?_
      refine lv_icmp_gt (tgt := 37) hx hb dX8_hasShade_30 (by decide) (fun c6 => ?_) (fun c6 => ?_)
      · have hF := op_pos c6 hF
        refine lv_iconst (v := (0 : Int32)) hx hb dX8_hasShade_37 (by decide) ?_
        cases hF
        rw [hQ]
        exact xrz hC rfl hP hS dX8_hasShade_38
      · have hF := op_neg c6 hF
        refine lv_iconst (v := (1 : Int32)) hx hb dX8_hasShade_33 (by decide) ?_
        refine lv_goto (tgt := 38) hx hb dX8_hasShade_34 (by decide) ?_
        cases hF
        rw [hQ]
        exact xrz hC rfl hP hS dX8_hasShade_38

def f_X8_common_L4  (k4 : Int32 → Int32 → Option Int32) : Nat → Int32 → Int32 → Option Int32
  | 0, _, _ => none
  | nf4 + 1, v1, v2 => (if v2 = 0 then (k4 v1 v2) else (f_X8_common_L4 k4 nf4 v2 (jrem v1 v2)))
theorem f_X8_common_L4_0  (k4 : Int32 → Int32 → Option Int32) (v1 : Int32) (v2 : Int32) : f_X8_common_L4 k4 0 v1 v2 = none := rfl
theorem f_X8_common_L4_s  (k4 : Int32 → Int32 → Option Int32) (nf4 : Nat) (v1 : Int32) (v2 : Int32) : f_X8_common_L4 k4 (nf4 + 1) v1 v2 = (if v2 = 0 then (k4 v1 v2) else (f_X8_common_L4 k4 nf4 v2 (jrem v1 v2))) := rfl

def f_X8_common (i : Int32) (j : Int32) : Option Int32 := (f_X8_common_L4 (fun (v1 : Int32) (v2 : Int32) => (some v1)) 20000 i j)

def rm_X8_common : Room := { frames := 0, cells := 0, slots := 0, locals := 0 }

theorem pd_X8_common : yX8_common.cls ≠ "java/lang/invoke/MethodHandle" ∧ yX8_common.cls ≠ "java/lang/invoke/VarHandle" ∧ (parseMethodDescriptor yX8_common.desc).map (fun d => d.parameters.length) = some 2 := by decide +kernel

set_option maxHeartbeats 4000000 in
set_option maxRecDepth 100000 in
theorem c_X8_common (l : Launch) (D : va_G) (cI cC cM : ClassId) (i : Int32) (j : Int32) (rr : Int32) (hF : f_X8_common i j = some rr) : CI l D cI cC cM yX8_common wsX8_common rm_X8_common [.int i, .int j] [] [] rr := by
  refine CI.of (cc := cX8_common) (nL := 5) (ret := (some .int)) (by decide) rfl (Nat.le_of_ble_eq_true rfl) ?_
  intro p e s m args below meth c A hC hP hD hS ls hl
  obtain ⟨hx, hb, hml, hown, hts, hr, hlk, hG, hA⟩ := id hC
  have hown : s.vm.findClass RX8 = some m.cls := hown
  have hK := hG.1
  have hl : lv_has ls 5 [(0, .int i), (1, .int j)] := hl
  obtain ⟨Q, hQ⟩ : ∃ Q, Q = MQ below (QI D [] rr A) args s 0 0 A := ⟨_, rfl⟩
  rw [← hQ]
  unfold f_X8_common at hF
  refine lv_iload_n hx hb dX8_common_0 rfl (lv_at hl 0 rfl) ?_
  refine lv_istore_n (lv' := [(2, .int i), (0, .int i), (1, .int j)]) hx hb dX8_common_1 rfl hl (by decide) rfl (fun ls hl => ?_)
  refine lv_iload_n hx hb dX8_common_2 rfl (lv_at hl 2 rfl) ?_
  refine lv_istore_n (lv' := [(3, .int j), (2, .int i), (0, .int i), (1, .int j)]) hx hb dX8_common_3 rfl hl (by decide) rfl (fun ls hl => ?_)
  have hL4 : ∀ (k4 : Int32 → Int32 → Option Int32), (∀ (v1 : Int32) (v2 : Int32) (H : Heap) (locs : List Loc), va_P D vwCl [] H → va_D A [] → va_S A s.heap H locs → ∀ ls : Array Slot, lv_has ls 5 [(2, .int v1)] → k4 v1 v2 = some rr → W p l e rm_X8_common s m args below meth c H locs 0 0 Q (F0 m 21 ls [])) → ∀ (nf4 : Nat) (v1 : Int32) (v2 : Int32) (H : Heap) (locs : List Loc), va_P D vwCl [] H → va_D A [] → va_S A s.heap H locs → ∀ ls : Array Slot, lv_has ls 5 [(3, .int v2), (2, .int v1)] → f_X8_common_L4 k4 nf4 v1 v2 = some rr → W p l e rm_X8_common s m args below meth c H locs 0 0 Q (F0 m 4 ls []) := by
    intro k4 hk4 nf4
    induction nf4 with
    | zero =>
      intro v1 v2 H locs hP hD hS ls hl hF
      rw [f_X8_common_L4_0] at hF
      cases hF
    | succ nf4 ih4 =>
      intro v1 v2 H locs hP hD hS ls hl hF
      rw [f_X8_common_L4_s] at hF
      refine lv_iload_n hx hb dX8_common_4 rfl (lv_at hl 0 rfl) ?_
      refine lv_if_eq (tgt := 21) hx hb dX8_common_5 (by decide) (fun c3 => ?_) (fun c3 => ?_)
      · have hF := op_pos c3 hF
        exact hk4 v1 v2 _ _ hP hD hS _ (lv_sub hl [1] rfl) hF
      · have hF := op_neg c3 hF
        refine lv_iload_n hx hb dX8_common_8 rfl (lv_at hl 1 rfl) ?_
        refine lv_iload_n hx hb dX8_common_9 rfl (lv_at hl 0 rfl) ?_
        refine lv_irem hx hb dX8_common_10 c3 ?_
        refine lv_istore (lv' := [(4, .int (jrem v1 v2)), (3, .int v2), (2, .int v1)]) hx hb dX8_common_11 hl (by decide) rfl (fun ls hl => ?_)
        refine lv_iload_n hx hb dX8_common_13 rfl (lv_at hl 1 rfl) ?_
        refine lv_istore_n (lv' := [(2, .int v2), (4, .int (jrem v1 v2)), (3, .int v2)]) hx hb dX8_common_14 rfl hl (by decide) rfl (fun ls hl => ?_)
        refine lv_iload hx hb dX8_common_15 (lv_at hl 1 rfl) ?_
        refine lv_istore_n (lv' := [(3, .int (jrem v1 v2)), (2, .int v2), (4, .int (jrem v1 v2))]) hx hb dX8_common_17 rfl hl (by decide) rfl (fun ls hl => ?_)
        refine lv_goto (tgt := 4) hx hb dX8_common_18 (by decide) ?_
        exact ih4 v2 (jrem v1 v2) _ _ hP hD hS _ (lv_sub hl [0, 1] rfl) hF
  refine hL4 _ (fun v1 v2 H locs hP hD hS ls hl hF => ?_) 20000 i j _ _ hP hD hS _ (lv_sub hl [0, 1] rfl) hF
  refine lv_iload_n hx hb dX8_common_21 rfl (lv_at hl 0 rfl) ?_
  cases hF
  rw [hQ]
  exact xri hC hP hS dX8_common_22

def f_X8_write (m_letterMany : Int32) (m_text : (Nat → Int32)) (i : Int32) : Option (Int32 × Int32 × (Nat → Int32)) := (Option.bind (f_X8_in i (32 : Int32) (126 : Int32)) fun r1 => (if r1 = 0 then (some ((-1 : Int32), m_letterMany, m_text)) else (if m_letterMany = (200 : Int32) then (some ((-3 : Int32), m_letterMany, m_text)) else (if okb m_letterMany 200 = true then (some ((m_letterMany + (1 : Int32)), (m_letterMany + (1 : Int32)), (upd m_text m_letterMany.toNatClampNeg i))) else none))))

def rm_X8_write : Room := { frames := 1, cells := 0, slots := 0, locals := 22 }

theorem pd_X8_write : yX8_write.cls ≠ "java/lang/invoke/MethodHandle" ∧ yX8_write.cls ≠ "java/lang/invoke/VarHandle" ∧ (parseMethodDescriptor yX8_write.desc).map (fun d => d.parameters.length) = some 1 := by decide +kernel

set_option maxHeartbeats 4000000 in
set_option maxRecDepth 100000 in
theorem c_X8_write (l : Launch) (D : va_G) (cI cC cM : ClassId) (ax a_text a_told a_readLaw a_readNow a_law a_now a_tried a_undos a_seenHour a_seenAt a_parts a_partsThen a_kept : Nat) (m_letterMany : Int32) (m_readAt : Int32) (m_undoMany : Int32) (m_undoAt : Int32) (m_seenMany : Int32) (m_keptMany : Int32) (m_text : (Nat → Int32)) (i : Int32) (rr : Int32) (m_letterMany' : Int32) (m_text' : (Nat → Int32)) (hF : f_X8_write m_letterMany m_text i = some (rr, m_letterMany', m_text')) : CI l D cI cC cM yX8_write wsX8_write rm_X8_write [.ref ax, .int i] [(ax, .inr (8, [.int m_letterMany, .ref a_text, .int m_readAt, .ref a_told, .ref a_readLaw, .ref a_readNow, .ref a_law, .ref a_now, .ref a_tried, .int m_undoMany, .int m_undoAt, .ref a_undos, .int m_seenMany, .ref a_seenHour, .ref a_seenAt, .ref a_parts, .ref a_partsThen, .int m_keptMany, .ref a_kept])), (a_text, .inl (cI, 200, .inl m_text))] [(ax, .inr (8, [.int m_letterMany', .ref a_text, .int m_readAt, .ref a_told, .ref a_readLaw, .ref a_readNow, .ref a_law, .ref a_now, .ref a_tried, .int m_undoMany, .int m_undoAt, .ref a_undos, .int m_seenMany, .ref a_seenHour, .ref a_seenAt, .ref a_parts, .ref a_partsThen, .int m_keptMany, .ref a_kept])), (a_text, .inl (cI, 200, .inl m_text'))] rr := by
  refine CI.of (cc := cX8_write) (nL := 2) (ret := (some .int)) (by decide) rfl (Nat.le_of_ble_eq_true rfl) ?_
  intro p e s m args below meth c A hC hP hD hS ls hl
  obtain ⟨hx, hb, hml, hown, hts, hr, hlk, hG, hA⟩ := id hC
  have hown : s.vm.findClass RX8 = some m.cls := hown
  have hK := hG.1
  have hl : lv_has ls 2 [(0, .ref ax), (1, .int i)] := hl
  have k_f61 := hts (.fieldLink RX8 61 "ParasolHoursModel" "letterMany" "I") (List.mem_of_getElem? (i := 1) rfl)
  have k_f7 := hts (.fieldLink RX8 7 "ParasolHoursModel" "text" "[I") (List.mem_of_getElem? (i := 2) rfl)
  have iX8 : ∀ w ∈ wsX80, w ∈ wsX8_write := by decide +kernel
  obtain ⟨Q, hQ⟩ : ∃ Q, Q = MQ below (QI D [(ax, .inr (8, [.int m_letterMany', .ref a_text, .int m_readAt, .ref a_told, .ref a_readLaw, .ref a_readNow, .ref a_law, .ref a_now, .ref a_tried, .int m_undoMany, .int m_undoAt, .ref a_undos, .int m_seenMany, .ref a_seenHour, .ref a_seenAt, .ref a_parts, .ref a_partsThen, .int m_keptMany, .ref a_kept])), (a_text, .inl (cI, 200, .inl m_text'))] rr A) args s 0 0 A := ⟨_, rfl⟩
  rw [← hQ]
  unfold f_X8_write at hF
  refine lv_iload_n hx hb dX8_write_0 rfl (lv_at hl 1 rfl) ?_
  refine lv_bipush (v := (32 : Int32)) hx hb dX8_write_1 (by decide) ?_
  refine lv_bipush (v := (126 : Int32)) hx hb dX8_write_3 (by decide) ?_
  obtain ⟨r1, hb2, hF⟩ := op_bind hF
  refine xSr (As := [.int i, .int (32 : Int32), .int (126 : Int32)]) (rest := []) hC hP hD hS [] (c_X8_in l D cI cC cM i (32 : Int32) (126 : Int32) r1 hb2) (va_cwS 3 hts gX8_write_X8_in rfl rfl rfl pd_X8_in ⟨Nat.le_of_ble_eq_true rfl, Nat.le_of_ble_eq_true rfl⟩) rfl rfl rfl hl.1 rfl (Nat.le_of_ble_eq_true rfl) dX8_write_5 ⟨Nat.zero_le _, Nat.zero_le _⟩ (fun H locs hP hS => ?_)
  refine lv_if_ne (tgt := 13) hx hb dX8_write_8 (by decide) (fun c3 => ?_) (fun c3 => ?_)
  · have hF := op_neg c3 hF
    refine lv_aload_n hx hb dX8_write_13 rfl (lv_at hl 0 rfl) ?_
    refine va_get (D := D) (ci := 8) (v := .int m_letterMany) (C := RX8) (T := TX8) (N := 19) hx hb hts iX8 hown hK hP 0 rfl rfl 0 (by decide) k_f61 (fun _ h9 => h9) rfl dX8_write_14 ?_
    refine lv_sipush (v := (200 : Int32)) hx hb dX8_write_17 (by decide) ?_
    refine lv_icmp_ne (tgt := 26) hx hb dX8_write_20 (by decide) (fun c4 => ?_) (fun c4 => ?_)
    · have hF := op_neg c4 hF
      refine lv_aload_n hx hb dX8_write_26 rfl (lv_at hl 0 rfl) ?_
      refine va_get (D := D) (ci := 8) (v := .ref a_text) (C := RX8) (T := TX8) (N := 19) hx hb hts iX8 hown hK hP 0 rfl rfl 1 (by decide) k_f7 (fun _ h9 => h9) rfl dX8_write_27 ?_
      refine lv_aload_n hx hb dX8_write_30 rfl (lv_at hl 0 rfl) ?_
      refine va_get (D := D) (ci := 8) (v := .int m_letterMany) (C := RX8) (T := TX8) (N := 19) hx hb hts iX8 hown hK hP 0 rfl rfl 0 (by decide) k_f61 (fun _ h9 => h9) rfl dX8_write_31 ?_
      refine lv_iload_n hx hb dX8_write_34 rfl (lv_at hl 1 rfl) ?_
      obtain ⟨o5, hF⟩ := op_ob hF
      refine va_iast hx hb hK hP hD hS 1 0 rfl rfl (okb_in o5) dX8_write_35 (fun H locs hP hD hS => ?_)
      have hP : va_P D vwCl [(ax, .inr (8, [.int m_letterMany, .ref a_text, .int m_readAt, .ref a_told, .ref a_readLaw, .ref a_readNow, .ref a_law, .ref a_now, .ref a_tried, .int m_undoMany, .int m_undoAt, .ref a_undos, .int m_seenMany, .ref a_seenHour, .ref a_seenAt, .ref a_parts, .ref a_partsThen, .int m_keptMany, .ref a_kept])), (a_text, .inl (cI, 200, .inl (upd m_text m_letterMany.toNatClampNeg i)))] H := hP
      have hD : va_D A [(ax, .inr (8, [.int m_letterMany, .ref a_text, .int m_readAt, .ref a_told, .ref a_readLaw, .ref a_readNow, .ref a_law, .ref a_now, .ref a_tried, .int m_undoMany, .int m_undoAt, .ref a_undos, .int m_seenMany, .ref a_seenHour, .ref a_seenAt, .ref a_parts, .ref a_partsThen, .int m_keptMany, .ref a_kept])), (a_text, .inl (cI, 200, .inl (upd m_text m_letterMany.toNatClampNeg i)))] := hD
      refine lv_aload_n hx hb dX8_write_36 rfl (lv_at hl 0 rfl) ?_
      refine lv_dup hx hb dX8_write_37 rfl ?_
      refine va_get (D := D) (ci := 8) (v := .int m_letterMany) (C := RX8) (T := TX8) (N := 19) hx hb hts iX8 hown hK hP 0 rfl rfl 0 (by decide) k_f61 (fun _ h9 => h9) rfl dX8_write_38 ?_
      refine lv_iconst (v := (1 : Int32)) hx hb dX8_write_41 (by decide) ?_
      refine lv_iadd hx hb dX8_write_42 ?_
      refine va_put (D := D) (ci := 8) (v := .int (m_letterMany + (1 : Int32))) (ty := .int) (C := RX8) (T := TX8) (N := 19) hx hb hts iX8 tyX8 tyX8_ok nmX8 hown hK hP hD hS 0 rfl rfl 0 (by decide) k_f61 (fun _ h9 => h9) rfl (by decide +kernel) rfl rfl (Nat.le_of_ble_eq_true rfl) dX8_write_43 (fun H locs hP hD hS => ?_)
      have hP : va_P D vwCl [(ax, .inr (8, [.int (m_letterMany + (1 : Int32)), .ref a_text, .int m_readAt, .ref a_told, .ref a_readLaw, .ref a_readNow, .ref a_law, .ref a_now, .ref a_tried, .int m_undoMany, .int m_undoAt, .ref a_undos, .int m_seenMany, .ref a_seenHour, .ref a_seenAt, .ref a_parts, .ref a_partsThen, .int m_keptMany, .ref a_kept])), (a_text, .inl (cI, 200, .inl (upd m_text m_letterMany.toNatClampNeg i)))] H := hP
      have hD : va_D A [(ax, .inr (8, [.int (m_letterMany + (1 : Int32)), .ref a_text, .int m_readAt, .ref a_told, .ref a_readLaw, .ref a_readNow, .ref a_law, .ref a_now, .ref a_tried, .int m_undoMany, .int m_undoAt, .ref a_undos, .int m_seenMany, .ref a_seenHour, .ref a_seenAt, .ref a_parts, .ref a_partsThen, .int m_keptMany, .ref a_kept])), (a_text, .inl (cI, 200, .inl (upd m_text m_letterMany.toNatClampNeg i)))] := hD
      refine lv_aload_n hx hb dX8_write_46 rfl (lv_at hl 0 rfl) ?_
      refine va_get (D := D) (ci := 8) (v := .int (m_letterMany + (1 : Int32))) (C := RX8) (T := TX8) (N := 19) hx hb hts iX8 hown hK hP 0 rfl rfl 0 (by decide) k_f61 (fun _ h9 => h9) rfl dX8_write_47 ?_
      cases hF
      rw [hQ]
      exact xri hC hP hS dX8_write_50
    · have hF := op_pos c4 hF
      refine lv_bipush (v := (-3 : Int32)) hx hb dX8_write_23 (by decide) ?_
      cases hF
      rw [hQ]
      exact xri hC hP hS dX8_write_25
  · have hF := op_pos c3 hF
    refine lv_iconst (v := (-1 : Int32)) hx hb dX8_write_11 (by decide) ?_
    cases hF
    rw [hQ]
    exact xri hC hP hS dX8_write_12

def f_X8_wipe (m_letterMany : Int32) : Option (Int32 × Int32) := (some (m_letterMany, (0 : Int32)))

def rm_X8_wipe : Room := { frames := 0, cells := 0, slots := 0, locals := 0 }

theorem pd_X8_wipe : yX8_wipe.cls ≠ "java/lang/invoke/MethodHandle" ∧ yX8_wipe.cls ≠ "java/lang/invoke/VarHandle" ∧ (parseMethodDescriptor yX8_wipe.desc).map (fun d => d.parameters.length) = some 0 := by decide +kernel

set_option maxHeartbeats 4000000 in
set_option maxRecDepth 100000 in
theorem c_X8_wipe (l : Launch) (D : va_G) (cI cC cM : ClassId) (ax a_text a_told a_readLaw a_readNow a_law a_now a_tried a_undos a_seenHour a_seenAt a_parts a_partsThen a_kept : Nat) (m_letterMany : Int32) (m_readAt : Int32) (m_undoMany : Int32) (m_undoAt : Int32) (m_seenMany : Int32) (m_keptMany : Int32) (rr : Int32) (m_letterMany' : Int32) (hF : f_X8_wipe m_letterMany = some (rr, m_letterMany')) : CI l D cI cC cM yX8_wipe wsX8_wipe rm_X8_wipe [.ref ax] [(ax, .inr (8, [.int m_letterMany, .ref a_text, .int m_readAt, .ref a_told, .ref a_readLaw, .ref a_readNow, .ref a_law, .ref a_now, .ref a_tried, .int m_undoMany, .int m_undoAt, .ref a_undos, .int m_seenMany, .ref a_seenHour, .ref a_seenAt, .ref a_parts, .ref a_partsThen, .int m_keptMany, .ref a_kept]))] [(ax, .inr (8, [.int m_letterMany', .ref a_text, .int m_readAt, .ref a_told, .ref a_readLaw, .ref a_readNow, .ref a_law, .ref a_now, .ref a_tried, .int m_undoMany, .int m_undoAt, .ref a_undos, .int m_seenMany, .ref a_seenHour, .ref a_seenAt, .ref a_parts, .ref a_partsThen, .int m_keptMany, .ref a_kept]))] rr := by
  refine CI.of (cc := cX8_wipe) (nL := 2) (ret := (some .int)) (by decide) rfl (Nat.le_of_ble_eq_true rfl) ?_
  intro p e s m args below meth c A hC hP hD hS ls hl
  obtain ⟨hx, hb, hml, hown, hts, hr, hlk, hG, hA⟩ := id hC
  have hown : s.vm.findClass RX8 = some m.cls := hown
  have hK := hG.1
  have hl : lv_has ls 2 [(0, .ref ax)] := hl
  have k_f61 := hts (.fieldLink RX8 61 "ParasolHoursModel" "letterMany" "I") (List.mem_of_getElem? (i := 1) rfl)
  have iX8 : ∀ w ∈ wsX80, w ∈ wsX8_wipe := by decide +kernel
  obtain ⟨Q, hQ⟩ : ∃ Q, Q = MQ below (QI D [(ax, .inr (8, [.int m_letterMany', .ref a_text, .int m_readAt, .ref a_told, .ref a_readLaw, .ref a_readNow, .ref a_law, .ref a_now, .ref a_tried, .int m_undoMany, .int m_undoAt, .ref a_undos, .int m_seenMany, .ref a_seenHour, .ref a_seenAt, .ref a_parts, .ref a_partsThen, .int m_keptMany, .ref a_kept]))] rr A) args s 0 0 A := ⟨_, rfl⟩
  rw [← hQ]
  unfold f_X8_wipe at hF
  refine lv_aload_n hx hb dX8_wipe_0 rfl (lv_at hl 0 rfl) ?_
  refine va_get (D := D) (ci := 8) (v := .int m_letterMany) (C := RX8) (T := TX8) (N := 19) hx hb hts iX8 hown hK hP 0 rfl rfl 0 (by decide) k_f61 (fun _ h9 => h9) rfl dX8_wipe_1 ?_
  refine lv_istore_n (lv' := [(1, .int m_letterMany), (0, .ref ax)]) hx hb dX8_wipe_4 rfl hl (by decide) rfl (fun ls hl => ?_)
  refine lv_aload_n hx hb dX8_wipe_5 rfl (lv_at hl 1 rfl) ?_
  refine lv_iconst (v := (0 : Int32)) hx hb dX8_wipe_6 (by decide) ?_
  refine va_put (D := D) (ci := 8) (v := .int (0 : Int32)) (ty := .int) (C := RX8) (T := TX8) (N := 19) hx hb hts iX8 tyX8 tyX8_ok nmX8 hown hK hP hD hS 0 rfl rfl 0 (by decide) k_f61 (fun _ h9 => h9) rfl (by decide +kernel) rfl rfl (Nat.le_of_ble_eq_true rfl) dX8_wipe_7 (fun H locs hP hD hS => ?_)
  have hP : va_P D vwCl [(ax, .inr (8, [.int (0 : Int32), .ref a_text, .int m_readAt, .ref a_told, .ref a_readLaw, .ref a_readNow, .ref a_law, .ref a_now, .ref a_tried, .int m_undoMany, .int m_undoAt, .ref a_undos, .int m_seenMany, .ref a_seenHour, .ref a_seenAt, .ref a_parts, .ref a_partsThen, .int m_keptMany, .ref a_kept]))] H := hP
  have hD : va_D A [(ax, .inr (8, [.int (0 : Int32), .ref a_text, .int m_readAt, .ref a_told, .ref a_readLaw, .ref a_readNow, .ref a_law, .ref a_now, .ref a_tried, .int m_undoMany, .int m_undoAt, .ref a_undos, .int m_seenMany, .ref a_seenHour, .ref a_seenAt, .ref a_parts, .ref a_partsThen, .int m_keptMany, .ref a_kept]))] := hD
  refine lv_iload_n hx hb dX8_wipe_10 rfl (lv_at hl 0 rfl) ?_
  cases hF
  rw [hQ]
  exact xri hC hP hS dX8_wipe_11

def f_X8_letterAt (m_letterMany : Int32) (m_text : (Nat → Int32)) (i : Int32) : Option Int32 := (if m_letterMany ≤ i then (some (0 : Int32)) else (if okb i 200 = true then (some (m_text i.toNatClampNeg)) else none))

def rm_X8_letterAt : Room := { frames := 0, cells := 0, slots := 0, locals := 0 }

theorem pd_X8_letterAt : yX8_letterAt.cls ≠ "java/lang/invoke/MethodHandle" ∧ yX8_letterAt.cls ≠ "java/lang/invoke/VarHandle" ∧ (parseMethodDescriptor yX8_letterAt.desc).map (fun d => d.parameters.length) = some 1 := by decide +kernel

set_option maxHeartbeats 4000000 in
set_option maxRecDepth 100000 in
theorem c_X8_letterAt (l : Launch) (D : va_G) (cI cC cM : ClassId) (ax a_text a_told a_readLaw a_readNow a_law a_now a_tried a_undos a_seenHour a_seenAt a_parts a_partsThen a_kept : Nat) (m_letterMany : Int32) (m_readAt : Int32) (m_undoMany : Int32) (m_undoAt : Int32) (m_seenMany : Int32) (m_keptMany : Int32) (m_text : (Nat → Int32)) (i : Int32) (rr : Int32) (hF : f_X8_letterAt m_letterMany m_text i = some rr) : CI l D cI cC cM yX8_letterAt wsX8_letterAt rm_X8_letterAt [.ref ax, .int i] [(ax, .inr (8, [.int m_letterMany, .ref a_text, .int m_readAt, .ref a_told, .ref a_readLaw, .ref a_readNow, .ref a_law, .ref a_now, .ref a_tried, .int m_undoMany, .int m_undoAt, .ref a_undos, .int m_seenMany, .ref a_seenHour, .ref a_seenAt, .ref a_parts, .ref a_partsThen, .int m_keptMany, .ref a_kept])), (a_text, .inl (cI, 200, .inl m_text))] [(ax, .inr (8, [.int m_letterMany, .ref a_text, .int m_readAt, .ref a_told, .ref a_readLaw, .ref a_readNow, .ref a_law, .ref a_now, .ref a_tried, .int m_undoMany, .int m_undoAt, .ref a_undos, .int m_seenMany, .ref a_seenHour, .ref a_seenAt, .ref a_parts, .ref a_partsThen, .int m_keptMany, .ref a_kept])), (a_text, .inl (cI, 200, .inl m_text))] rr := by
  refine CI.of (cc := cX8_letterAt) (nL := 2) (ret := (some .int)) (by decide) rfl (Nat.le_of_ble_eq_true rfl) ?_
  intro p e s m args below meth c A hC hP hD hS ls hl
  obtain ⟨hx, hb, hml, hown, hts, hr, hlk, hG, hA⟩ := id hC
  have hown : s.vm.findClass RX8 = some m.cls := hown
  have hK := hG.1
  have hl : lv_has ls 2 [(0, .ref ax), (1, .int i)] := hl
  have k_f61 := hts (.fieldLink RX8 61 "ParasolHoursModel" "letterMany" "I") (List.mem_of_getElem? (i := 1) rfl)
  have k_f7 := hts (.fieldLink RX8 7 "ParasolHoursModel" "text" "[I") (List.mem_of_getElem? (i := 2) rfl)
  have iX8 : ∀ w ∈ wsX80, w ∈ wsX8_letterAt := by decide +kernel
  obtain ⟨Q, hQ⟩ : ∃ Q, Q = MQ below (QI D [(ax, .inr (8, [.int m_letterMany, .ref a_text, .int m_readAt, .ref a_told, .ref a_readLaw, .ref a_readNow, .ref a_law, .ref a_now, .ref a_tried, .int m_undoMany, .int m_undoAt, .ref a_undos, .int m_seenMany, .ref a_seenHour, .ref a_seenAt, .ref a_parts, .ref a_partsThen, .int m_keptMany, .ref a_kept])), (a_text, .inl (cI, 200, .inl m_text))] rr A) args s 0 0 A := ⟨_, rfl⟩
  rw [← hQ]
  unfold f_X8_letterAt at hF
  refine lv_iload_n hx hb dX8_letterAt_0 rfl (lv_at hl 1 rfl) ?_
  refine lv_aload_n hx hb dX8_letterAt_1 rfl (lv_at hl 0 rfl) ?_
  refine va_get (D := D) (ci := 8) (v := .int m_letterMany) (C := RX8) (T := TX8) (N := 19) hx hb hts iX8 hown hK hP 0 rfl rfl 0 (by decide) k_f61 (fun _ h9 => h9) rfl dX8_letterAt_2 ?_
  refine lv_icmp_ge (tgt := 17) hx hb dX8_letterAt_5 (by decide) (fun c1 => ?_) (fun c1 => ?_)
  · have hF := op_pos c1 hF
    refine lv_iconst (v := (0 : Int32)) hx hb dX8_letterAt_17 (by decide) ?_
    cases hF
    rw [hQ]
    exact xri hC hP hS dX8_letterAt_18
  · have hF := op_neg c1 hF
    refine lv_aload_n hx hb dX8_letterAt_8 rfl (lv_at hl 0 rfl) ?_
    refine va_get (D := D) (ci := 8) (v := .ref a_text) (C := RX8) (T := TX8) (N := 19) hx hb hts iX8 hown hK hP 0 rfl rfl 1 (by decide) k_f7 (fun _ h9 => h9) rfl dX8_letterAt_9 ?_
    refine lv_iload_n hx hb dX8_letterAt_12 rfl (lv_at hl 1 rfl) ?_
    obtain ⟨o2, hF⟩ := op_ob hF
    refine va_iald hx hb hK hP 1 0 rfl rfl (okb_in o2) dX8_letterAt_13 ?_
    refine lv_goto (tgt := 18) hx hb dX8_letterAt_14 (by decide) ?_
    cases hF
    rw [hQ]
    exact xri hC hP hS dX8_letterAt_18

def f_X8_readsNumbers_L2 (i : Int32) (m_letterMany : Int32) (m_text : (Nat → Int32)) (k2 : Int32 → Int32 → (Nat → Int32) → Option (Int32 × Int32 × (Nat → Int32))) : Nat → Int32 → Int32 → (Nat → Int32) → Option (Int32 × Int32 × (Nat → Int32))
  | 0, _, _, _ => none
  | nf2 + 1, v1, m_readAt_2, m_told_3 => (if i ≤ v1 then (k2 v1 m_readAt_2 m_told_3) else (Option.bind (f_X8_letterAt m_letterMany m_text m_readAt_2) fun r5 => (Option.bind (f_X8_isFigure r5) fun r7 => (if r7 = 0 then (some ((0 : Int32), m_readAt_2, m_told_3)) else (Option.bind (f_X8_letterAt m_letterMany m_text m_readAt_2) fun r10 => (Option.bind (f_X8_letterAt m_letterMany m_text (m_readAt_2 + (1 : Int32))) fun r12 => (Option.bind (f_X8_isFigure r12) fun r14 => (if r14 = 0 then (if okb v1 3 = true then (Option.bind (f_X8_letterAt m_letterMany m_text (m_readAt_2 + (1 : Int32))) fun r18 => (if v1 = (i - (1 : Int32)) then (if r18 = (59 : Int32) then (f_X8_readsNumbers_L2 i m_letterMany m_text k2 nf2 (v1 + (1 : Int32)) ((m_readAt_2 + (1 : Int32)) + (1 : Int32)) (upd m_told_3 v1.toNatClampNeg (r10 - (48 : Int32)))) else (some ((0 : Int32), (m_readAt_2 + (1 : Int32)), (upd m_told_3 v1.toNatClampNeg (r10 - (48 : Int32)))))) else (if r18 = (44 : Int32) then (f_X8_readsNumbers_L2 i m_letterMany m_text k2 nf2 (v1 + (1 : Int32)) ((m_readAt_2 + (1 : Int32)) + (1 : Int32)) (upd m_told_3 v1.toNatClampNeg (r10 - (48 : Int32)))) else (some ((0 : Int32), (m_readAt_2 + (1 : Int32)), (upd m_told_3 v1.toNatClampNeg (r10 - (48 : Int32)))))))) else none) else (Option.bind (f_X8_letterAt m_letterMany m_text (m_readAt_2 + (1 : Int32))) fun r23 => (if okb v1 3 = true then (Option.bind (f_X8_letterAt m_letterMany m_text ((m_readAt_2 + (1 : Int32)) + (1 : Int32))) fun r26 => (if v1 = (i - (1 : Int32)) then (if r26 = (59 : Int32) then (f_X8_readsNumbers_L2 i m_letterMany m_text k2 nf2 (v1 + (1 : Int32)) (((m_readAt_2 + (1 : Int32)) + (1 : Int32)) + (1 : Int32)) (upd m_told_3 v1.toNatClampNeg ((((10 : Int32) * (r10 - (48 : Int32))) + r23) - (48 : Int32)))) else (some ((0 : Int32), ((m_readAt_2 + (1 : Int32)) + (1 : Int32)), (upd m_told_3 v1.toNatClampNeg ((((10 : Int32) * (r10 - (48 : Int32))) + r23) - (48 : Int32)))))) else (if r26 = (44 : Int32) then (f_X8_readsNumbers_L2 i m_letterMany m_text k2 nf2 (v1 + (1 : Int32)) (((m_readAt_2 + (1 : Int32)) + (1 : Int32)) + (1 : Int32)) (upd m_told_3 v1.toNatClampNeg ((((10 : Int32) * (r10 - (48 : Int32))) + r23) - (48 : Int32)))) else (some ((0 : Int32), ((m_readAt_2 + (1 : Int32)) + (1 : Int32)), (upd m_told_3 v1.toNatClampNeg ((((10 : Int32) * (r10 - (48 : Int32))) + r23) - (48 : Int32)))))))) else none))))))))))
theorem f_X8_readsNumbers_L2_0 (i : Int32) (m_letterMany : Int32) (m_text : (Nat → Int32)) (k2 : Int32 → Int32 → (Nat → Int32) → Option (Int32 × Int32 × (Nat → Int32))) (v1 : Int32) (m_readAt_2 : Int32) (m_told_3 : (Nat → Int32)) : f_X8_readsNumbers_L2 i m_letterMany m_text k2 0 v1 m_readAt_2 m_told_3 = none := rfl
theorem f_X8_readsNumbers_L2_s (i : Int32) (m_letterMany : Int32) (m_text : (Nat → Int32)) (k2 : Int32 → Int32 → (Nat → Int32) → Option (Int32 × Int32 × (Nat → Int32))) (nf2 : Nat) (v1 : Int32) (m_readAt_2 : Int32) (m_told_3 : (Nat → Int32)) : f_X8_readsNumbers_L2 i m_letterMany m_text k2 (nf2 + 1) v1 m_readAt_2 m_told_3 = (if i ≤ v1 then (k2 v1 m_readAt_2 m_told_3) else (Option.bind (f_X8_letterAt m_letterMany m_text m_readAt_2) fun r5 => (Option.bind (f_X8_isFigure r5) fun r7 => (if r7 = 0 then (some ((0 : Int32), m_readAt_2, m_told_3)) else (Option.bind (f_X8_letterAt m_letterMany m_text m_readAt_2) fun r10 => (Option.bind (f_X8_letterAt m_letterMany m_text (m_readAt_2 + (1 : Int32))) fun r12 => (Option.bind (f_X8_isFigure r12) fun r14 => (if r14 = 0 then (if okb v1 3 = true then (Option.bind (f_X8_letterAt m_letterMany m_text (m_readAt_2 + (1 : Int32))) fun r18 => (if v1 = (i - (1 : Int32)) then (if r18 = (59 : Int32) then (f_X8_readsNumbers_L2 i m_letterMany m_text k2 nf2 (v1 + (1 : Int32)) ((m_readAt_2 + (1 : Int32)) + (1 : Int32)) (upd m_told_3 v1.toNatClampNeg (r10 - (48 : Int32)))) else (some ((0 : Int32), (m_readAt_2 + (1 : Int32)), (upd m_told_3 v1.toNatClampNeg (r10 - (48 : Int32)))))) else (if r18 = (44 : Int32) then (f_X8_readsNumbers_L2 i m_letterMany m_text k2 nf2 (v1 + (1 : Int32)) ((m_readAt_2 + (1 : Int32)) + (1 : Int32)) (upd m_told_3 v1.toNatClampNeg (r10 - (48 : Int32)))) else (some ((0 : Int32), (m_readAt_2 + (1 : Int32)), (upd m_told_3 v1.toNatClampNeg (r10 - (48 : Int32)))))))) else none) else (Option.bind (f_X8_letterAt m_letterMany m_text (m_readAt_2 + (1 : Int32))) fun r23 => (if okb v1 3 = true then (Option.bind (f_X8_letterAt m_letterMany m_text ((m_readAt_2 + (1 : Int32)) + (1 : Int32))) fun r26 => (if v1 = (i - (1 : Int32)) then (if r26 = (59 : Int32) then (f_X8_readsNumbers_L2 i m_letterMany m_text k2 nf2 (v1 + (1 : Int32)) (((m_readAt_2 + (1 : Int32)) + (1 : Int32)) + (1 : Int32)) (upd m_told_3 v1.toNatClampNeg ((((10 : Int32) * (r10 - (48 : Int32))) + r23) - (48 : Int32)))) else (some ((0 : Int32), ((m_readAt_2 + (1 : Int32)) + (1 : Int32)), (upd m_told_3 v1.toNatClampNeg ((((10 : Int32) * (r10 - (48 : Int32))) + r23) - (48 : Int32)))))) else (if r26 = (44 : Int32) then (f_X8_readsNumbers_L2 i m_letterMany m_text k2 nf2 (v1 + (1 : Int32)) (((m_readAt_2 + (1 : Int32)) + (1 : Int32)) + (1 : Int32)) (upd m_told_3 v1.toNatClampNeg ((((10 : Int32) * (r10 - (48 : Int32))) + r23) - (48 : Int32)))) else (some ((0 : Int32), ((m_readAt_2 + (1 : Int32)) + (1 : Int32)), (upd m_told_3 v1.toNatClampNeg ((((10 : Int32) * (r10 - (48 : Int32))) + r23) - (48 : Int32)))))))) else none)))))))))) := rfl

def f_X8_readsNumbers (m_letterMany : Int32) (m_readAt : Int32) (m_text : (Nat → Int32)) (m_told : (Nat → Int32)) (i : Int32) : Option (Int32 × Int32 × (Nat → Int32)) := (f_X8_readsNumbers_L2 i m_letterMany m_text (fun (v1 : Int32) (m_readAt_2 : Int32) (m_told_3 : (Nat → Int32)) => (some ((1 : Int32), m_readAt_2, m_told_3))) 20000 (0 : Int32) m_readAt m_told)

def rm_X8_readsNumbers : Room := { frames := 2, cells := 0, slots := 0, locals := 42 }

theorem pd_X8_readsNumbers : yX8_readsNumbers.cls ≠ "java/lang/invoke/MethodHandle" ∧ yX8_readsNumbers.cls ≠ "java/lang/invoke/VarHandle" ∧ (parseMethodDescriptor yX8_readsNumbers.desc).map (fun d => d.parameters.length) = some 1 := by decide +kernel

set_option maxHeartbeats 4000000 in
set_option maxRecDepth 100000 in
theorem c_X8_readsNumbers (l : Launch) (D : va_G) (cI cC cM : ClassId) (ax a_text a_told a_readLaw a_readNow a_law a_now a_tried a_undos a_seenHour a_seenAt a_parts a_partsThen a_kept : Nat) (m_letterMany : Int32) (m_readAt : Int32) (m_undoMany : Int32) (m_undoAt : Int32) (m_seenMany : Int32) (m_keptMany : Int32) (m_text : (Nat → Int32)) (m_told : (Nat → Int32)) (i : Int32) (rr : Int32) (m_readAt' : Int32) (m_told' : (Nat → Int32)) (hF : f_X8_readsNumbers m_letterMany m_readAt m_text m_told i = some (rr, m_readAt', m_told')) : CI l D cI cC cM yX8_readsNumbers wsX8_readsNumbers rm_X8_readsNumbers [.ref ax, .int i] [(ax, .inr (8, [.int m_letterMany, .ref a_text, .int m_readAt, .ref a_told, .ref a_readLaw, .ref a_readNow, .ref a_law, .ref a_now, .ref a_tried, .int m_undoMany, .int m_undoAt, .ref a_undos, .int m_seenMany, .ref a_seenHour, .ref a_seenAt, .ref a_parts, .ref a_partsThen, .int m_keptMany, .ref a_kept])), (a_text, .inl (cI, 200, .inl m_text)), (a_told, .inl (cI, 3, .inl m_told))] [(ax, .inr (8, [.int m_letterMany, .ref a_text, .int m_readAt', .ref a_told, .ref a_readLaw, .ref a_readNow, .ref a_law, .ref a_now, .ref a_tried, .int m_undoMany, .int m_undoAt, .ref a_undos, .int m_seenMany, .ref a_seenHour, .ref a_seenAt, .ref a_parts, .ref a_partsThen, .int m_keptMany, .ref a_kept])), (a_text, .inl (cI, 200, .inl m_text)), (a_told, .inl (cI, 3, .inl m_told'))] rr := by
  refine CI.of (cc := cX8_readsNumbers) (nL := 4) (ret := (some .boolean)) (by decide) rfl (Nat.le_of_ble_eq_true rfl) ?_
  intro p e s m args below meth c A hC hP hD hS ls hl
  obtain ⟨hx, hb, hml, hown, hts, hr, hlk, hG, hA⟩ := id hC
  have hown : s.vm.findClass RX8 = some m.cls := hown
  have hK := hG.1
  have hl : lv_has ls 4 [(0, .ref ax), (1, .int i)] := hl
  have k_f65 := hts (.fieldLink RX8 65 "ParasolHoursModel" "readAt" "I") (List.mem_of_getElem? (i := 1) rfl)
  have k_f13 := hts (.fieldLink RX8 13 "ParasolHoursModel" "told" "[I") (List.mem_of_getElem? (i := 2) rfl)
  have iX8 : ∀ w ∈ wsX80, w ∈ wsX8_readsNumbers := by decide +kernel
  obtain ⟨Q, hQ⟩ : ∃ Q, Q = MQ below (QI D [(ax, .inr (8, [.int m_letterMany, .ref a_text, .int m_readAt', .ref a_told, .ref a_readLaw, .ref a_readNow, .ref a_law, .ref a_now, .ref a_tried, .int m_undoMany, .int m_undoAt, .ref a_undos, .int m_seenMany, .ref a_seenHour, .ref a_seenAt, .ref a_parts, .ref a_partsThen, .int m_keptMany, .ref a_kept])), (a_text, .inl (cI, 200, .inl m_text)), (a_told, .inl (cI, 3, .inl m_told'))] rr A) args s 0 0 A := ⟨_, rfl⟩
  rw [← hQ]
  unfold f_X8_readsNumbers at hF
  refine lv_iconst (v := (0 : Int32)) hx hb dX8_readsNumbers_0 (by decide) ?_
  refine lv_istore_n (lv' := [(2, .int (0 : Int32)), (0, .ref ax), (1, .int i)]) hx hb dX8_readsNumbers_1 rfl hl (by decide) rfl (fun ls hl => ?_)
  have hL2 : ∀ (k2 : Int32 → Int32 → (Nat → Int32) → Option (Int32 × Int32 × (Nat → Int32))), (∀ (v1 : Int32) (m_readAt_2 : Int32) (m_told_3 : (Nat → Int32)) (H : Heap) (locs : List Loc), va_P D vwCl [(ax, .inr (8, [.int m_letterMany, .ref a_text, .int m_readAt_2, .ref a_told, .ref a_readLaw, .ref a_readNow, .ref a_law, .ref a_now, .ref a_tried, .int m_undoMany, .int m_undoAt, .ref a_undos, .int m_seenMany, .ref a_seenHour, .ref a_seenAt, .ref a_parts, .ref a_partsThen, .int m_keptMany, .ref a_kept])), (a_text, .inl (cI, 200, .inl m_text)), (a_told, .inl (cI, 3, .inl m_told_3))] H → va_D A [(ax, .inr (8, [.int m_letterMany, .ref a_text, .int m_readAt_2, .ref a_told, .ref a_readLaw, .ref a_readNow, .ref a_law, .ref a_now, .ref a_tried, .int m_undoMany, .int m_undoAt, .ref a_undos, .int m_seenMany, .ref a_seenHour, .ref a_seenAt, .ref a_parts, .ref a_partsThen, .int m_keptMany, .ref a_kept])), (a_text, .inl (cI, 200, .inl m_text)), (a_told, .inl (cI, 3, .inl m_told_3))] → va_S A s.heap H locs → ∀ ls : Array Slot, lv_has ls 4 [] → k2 v1 m_readAt_2 m_told_3 = some (rr, m_readAt', m_told') → W p l e rm_X8_readsNumbers s m args below meth c H locs 0 0 Q (F0 m 136 ls [])) → ∀ (nf2 : Nat) (v1 : Int32) (m_readAt_2 : Int32) (m_told_3 : (Nat → Int32)) (H : Heap) (locs : List Loc), va_P D vwCl [(ax, .inr (8, [.int m_letterMany, .ref a_text, .int m_readAt_2, .ref a_told, .ref a_readLaw, .ref a_readNow, .ref a_law, .ref a_now, .ref a_tried, .int m_undoMany, .int m_undoAt, .ref a_undos, .int m_seenMany, .ref a_seenHour, .ref a_seenAt, .ref a_parts, .ref a_partsThen, .int m_keptMany, .ref a_kept])), (a_text, .inl (cI, 200, .inl m_text)), (a_told, .inl (cI, 3, .inl m_told_3))] H → va_D A [(ax, .inr (8, [.int m_letterMany, .ref a_text, .int m_readAt_2, .ref a_told, .ref a_readLaw, .ref a_readNow, .ref a_law, .ref a_now, .ref a_tried, .int m_undoMany, .int m_undoAt, .ref a_undos, .int m_seenMany, .ref a_seenHour, .ref a_seenAt, .ref a_parts, .ref a_partsThen, .int m_keptMany, .ref a_kept])), (a_text, .inl (cI, 200, .inl m_text)), (a_told, .inl (cI, 3, .inl m_told_3))] → va_S A s.heap H locs → ∀ ls : Array Slot, lv_has ls 4 [(2, .int v1), (0, .ref ax), (1, .int i)] → f_X8_readsNumbers_L2 i m_letterMany m_text k2 nf2 v1 m_readAt_2 m_told_3 = some (rr, m_readAt', m_told') → W p l e rm_X8_readsNumbers s m args below meth c H locs 0 0 Q (F0 m 2 ls []) := by
    intro k2 hk2 nf2
    induction nf2 with
    | zero =>
      intro v1 m_readAt_2 m_told_3 H locs hP hD hS ls hl hF
      rw [f_X8_readsNumbers_L2_0] at hF
      cases hF
    | succ nf2 ih2 =>
      intro v1 m_readAt_2 m_told_3 H locs hP hD hS ls hl hF
      rw [f_X8_readsNumbers_L2_s] at hF
      refine lv_iload_n hx hb dX8_readsNumbers_2 rfl (lv_at hl 0 rfl) ?_
      refine lv_iload_n hx hb dX8_readsNumbers_3 rfl (lv_at hl 2 rfl) ?_
      refine lv_icmp_ge (tgt := 136) hx hb dX8_readsNumbers_4 (by decide) (fun c4 => ?_) (fun c4 => ?_)
      · have hF := op_pos c4 hF
        exact hk2 v1 m_readAt_2 m_told_3 _ _ hP hD hS _ (lv_sub hl [] rfl) hF
      · have hF := op_neg c4 hF
        refine lv_aload_n hx hb dX8_readsNumbers_7 rfl (lv_at hl 1 rfl) ?_
        refine lv_aload_n hx hb dX8_readsNumbers_8 rfl (lv_at hl 1 rfl) ?_
        refine va_get (D := D) (ci := 8) (v := .int m_readAt_2) (C := RX8) (T := TX8) (N := 19) hx hb hts iX8 hown hK hP 0 rfl rfl 2 (by decide) k_f65 (fun _ h9 => h9) rfl dX8_readsNumbers_9 ?_
        obtain ⟨r5, hb6, hF⟩ := op_bind hF
        refine xVr (As := [.int m_readAt_2]) (rest := []) hC hP hD hS [0, 1] (c_X8_letterAt l D cI cC cM ax a_text a_told a_readLaw a_readNow a_law a_now a_tried a_undos a_seenHour a_seenAt a_parts a_partsThen a_kept m_letterMany m_readAt_2 m_undoMany m_undoAt m_seenMany m_keptMany m_text m_readAt_2 r5 hb6) (cwV 1 hts gX8_readsNumbers_X8_letterAt rfl rfl rfl ⟨rfl, pd_X8_letterAt⟩ ⟨Nat.le_of_ble_eq_true rfl, Nat.le_of_ble_eq_true rfl⟩) rfl rfl 0 8 rfl rfl rfl rfl hl.1 rfl (Nat.le_of_ble_eq_true rfl) dX8_readsNumbers_12 ⟨Nat.zero_le _, Nat.zero_le _⟩ (fun H locs hP hS => ?_)
        obtain ⟨r7, hb8, hF⟩ := op_bind hF
        refine xSr (As := [.int r5]) (rest := []) hC hP hD hS [] (c_X8_isFigure l D cI cC cM r5 r7 hb8) (va_cwS 1 hts gX8_readsNumbers_X8_isFigure rfl rfl rfl pd_X8_isFigure ⟨Nat.le_of_ble_eq_true rfl, Nat.le_of_ble_eq_true rfl⟩) rfl rfl rfl hl.1 rfl (Nat.le_of_ble_eq_true rfl) dX8_readsNumbers_15 ⟨Nat.zero_le _, Nat.zero_le _⟩ (fun H locs hP hS => ?_)
        refine lv_if_ne (tgt := 23) hx hb dX8_readsNumbers_18 (by decide) (fun c9 => ?_) (fun c9 => ?_)
        · have hF := op_neg c9 hF
          refine lv_aload_n hx hb dX8_readsNumbers_23 rfl (lv_at hl 1 rfl) ?_
          refine lv_aload_n hx hb dX8_readsNumbers_24 rfl (lv_at hl 1 rfl) ?_
          refine va_get (D := D) (ci := 8) (v := .int m_readAt_2) (C := RX8) (T := TX8) (N := 19) hx hb hts iX8 hown hK hP 0 rfl rfl 2 (by decide) k_f65 (fun _ h9 => h9) rfl dX8_readsNumbers_25 ?_
          obtain ⟨r10, hb11, hF⟩ := op_bind hF
          refine xVr (As := [.int m_readAt_2]) (rest := []) hC hP hD hS [0, 1] (c_X8_letterAt l D cI cC cM ax a_text a_told a_readLaw a_readNow a_law a_now a_tried a_undos a_seenHour a_seenAt a_parts a_partsThen a_kept m_letterMany m_readAt_2 m_undoMany m_undoAt m_seenMany m_keptMany m_text m_readAt_2 r10 hb11) (cwV 1 hts gX8_readsNumbers_X8_letterAt rfl rfl rfl ⟨rfl, pd_X8_letterAt⟩ ⟨Nat.le_of_ble_eq_true rfl, Nat.le_of_ble_eq_true rfl⟩) rfl rfl 0 8 rfl rfl rfl rfl hl.1 rfl (Nat.le_of_ble_eq_true rfl) dX8_readsNumbers_28 ⟨Nat.zero_le _, Nat.zero_le _⟩ (fun H locs hP hS => ?_)
          refine lv_bipush (v := (48 : Int32)) hx hb dX8_readsNumbers_31 (by decide) ?_
          refine lv_isub hx hb dX8_readsNumbers_33 ?_
          refine lv_istore_n (lv' := [(3, .int (r10 - (48 : Int32))), (2, .int v1), (0, .ref ax), (1, .int i)]) hx hb dX8_readsNumbers_34 rfl hl (by decide) rfl (fun ls hl => ?_)
          refine lv_aload_n hx hb dX8_readsNumbers_35 rfl (lv_at hl 2 rfl) ?_
          refine lv_dup hx hb dX8_readsNumbers_36 rfl ?_
          refine va_get (D := D) (ci := 8) (v := .int m_readAt_2) (C := RX8) (T := TX8) (N := 19) hx hb hts iX8 hown hK hP 0 rfl rfl 2 (by decide) k_f65 (fun _ h9 => h9) rfl dX8_readsNumbers_37 ?_
          refine lv_iconst (v := (1 : Int32)) hx hb dX8_readsNumbers_40 (by decide) ?_
          refine lv_iadd hx hb dX8_readsNumbers_41 ?_
          refine va_put (D := D) (ci := 8) (v := .int (m_readAt_2 + (1 : Int32))) (ty := .int) (C := RX8) (T := TX8) (N := 19) hx hb hts iX8 tyX8 tyX8_ok nmX8 hown hK hP hD hS 0 rfl rfl 2 (by decide) k_f65 (fun _ h9 => h9) rfl (by decide +kernel) rfl rfl (Nat.le_of_ble_eq_true rfl) dX8_readsNumbers_42 (fun H locs hP hD hS => ?_)
          have hP : va_P D vwCl [(ax, .inr (8, [.int m_letterMany, .ref a_text, .int (m_readAt_2 + (1 : Int32)), .ref a_told, .ref a_readLaw, .ref a_readNow, .ref a_law, .ref a_now, .ref a_tried, .int m_undoMany, .int m_undoAt, .ref a_undos, .int m_seenMany, .ref a_seenHour, .ref a_seenAt, .ref a_parts, .ref a_partsThen, .int m_keptMany, .ref a_kept])), (a_text, .inl (cI, 200, .inl m_text)), (a_told, .inl (cI, 3, .inl m_told_3))] H := hP
          have hD : va_D A [(ax, .inr (8, [.int m_letterMany, .ref a_text, .int (m_readAt_2 + (1 : Int32)), .ref a_told, .ref a_readLaw, .ref a_readNow, .ref a_law, .ref a_now, .ref a_tried, .int m_undoMany, .int m_undoAt, .ref a_undos, .int m_seenMany, .ref a_seenHour, .ref a_seenAt, .ref a_parts, .ref a_partsThen, .int m_keptMany, .ref a_kept])), (a_text, .inl (cI, 200, .inl m_text)), (a_told, .inl (cI, 3, .inl m_told_3))] := hD
          refine lv_aload_n hx hb dX8_readsNumbers_45 rfl (lv_at hl 2 rfl) ?_
          refine lv_aload_n hx hb dX8_readsNumbers_46 rfl (lv_at hl 2 rfl) ?_
          refine va_get (D := D) (ci := 8) (v := .int (m_readAt_2 + (1 : Int32))) (C := RX8) (T := TX8) (N := 19) hx hb hts iX8 hown hK hP 0 rfl rfl 2 (by decide) k_f65 (fun _ h9 => h9) rfl dX8_readsNumbers_47 ?_
          obtain ⟨r12, hb13, hF⟩ := op_bind hF
          refine xVr (As := [.int (m_readAt_2 + (1 : Int32))]) (rest := []) hC hP hD hS [0, 1] (c_X8_letterAt l D cI cC cM ax a_text a_told a_readLaw a_readNow a_law a_now a_tried a_undos a_seenHour a_seenAt a_parts a_partsThen a_kept m_letterMany (m_readAt_2 + (1 : Int32)) m_undoMany m_undoAt m_seenMany m_keptMany m_text (m_readAt_2 + (1 : Int32)) r12 hb13) (cwV 1 hts gX8_readsNumbers_X8_letterAt rfl rfl rfl ⟨rfl, pd_X8_letterAt⟩ ⟨Nat.le_of_ble_eq_true rfl, Nat.le_of_ble_eq_true rfl⟩) rfl rfl 0 8 rfl rfl rfl rfl hl.1 rfl (Nat.le_of_ble_eq_true rfl) dX8_readsNumbers_50 ⟨Nat.zero_le _, Nat.zero_le _⟩ (fun H locs hP hS => ?_)
          obtain ⟨r14, hb15, hF⟩ := op_bind hF
          refine xSr (As := [.int r12]) (rest := []) hC hP hD hS [] (c_X8_isFigure l D cI cC cM r12 r14 hb15) (va_cwS 1 hts gX8_readsNumbers_X8_isFigure rfl rfl rfl pd_X8_isFigure ⟨Nat.le_of_ble_eq_true rfl, Nat.le_of_ble_eq_true rfl⟩) rfl rfl rfl hl.1 rfl (Nat.le_of_ble_eq_true rfl) dX8_readsNumbers_53 ⟨Nat.zero_le _, Nat.zero_le _⟩ (fun H locs hP hS => ?_)
          refine lv_if_eq (tgt := 86) hx hb dX8_readsNumbers_56 (by decide) (fun c16 => ?_) (fun c16 => ?_)
          · have hF := op_pos c16 hF
            refine lv_aload_n hx hb dX8_readsNumbers_86 rfl (lv_at hl 2 rfl) ?_
            refine va_get (D := D) (ci := 8) (v := .ref a_told) (C := RX8) (T := TX8) (N := 19) hx hb hts iX8 hown hK hP 0 rfl rfl 3 (by decide) k_f13 (fun _ h9 => h9) rfl dX8_readsNumbers_87 ?_
            refine lv_iload_n hx hb dX8_readsNumbers_90 rfl (lv_at hl 1 rfl) ?_
            refine lv_iload_n hx hb dX8_readsNumbers_91 rfl (lv_at hl 0 rfl) ?_
            obtain ⟨o17, hF⟩ := op_ob hF
            refine va_iast hx hb hK hP hD hS 2 0 rfl rfl (okb_in o17) dX8_readsNumbers_92 (fun H locs hP hD hS => ?_)
            have hP : va_P D vwCl [(ax, .inr (8, [.int m_letterMany, .ref a_text, .int (m_readAt_2 + (1 : Int32)), .ref a_told, .ref a_readLaw, .ref a_readNow, .ref a_law, .ref a_now, .ref a_tried, .int m_undoMany, .int m_undoAt, .ref a_undos, .int m_seenMany, .ref a_seenHour, .ref a_seenAt, .ref a_parts, .ref a_partsThen, .int m_keptMany, .ref a_kept])), (a_text, .inl (cI, 200, .inl m_text)), (a_told, .inl (cI, 3, .inl (upd m_told_3 v1.toNatClampNeg (r10 - (48 : Int32)))))] H := hP
            have hD : va_D A [(ax, .inr (8, [.int m_letterMany, .ref a_text, .int (m_readAt_2 + (1 : Int32)), .ref a_told, .ref a_readLaw, .ref a_readNow, .ref a_law, .ref a_now, .ref a_tried, .int m_undoMany, .int m_undoAt, .ref a_undos, .int m_seenMany, .ref a_seenHour, .ref a_seenAt, .ref a_parts, .ref a_partsThen, .int m_keptMany, .ref a_kept])), (a_text, .inl (cI, 200, .inl m_text)), (a_told, .inl (cI, 3, .inl (upd m_told_3 v1.toNatClampNeg (r10 - (48 : Int32)))))] := hD
            refine lv_aload_n hx hb dX8_readsNumbers_93 rfl (lv_at hl 2 rfl) ?_
            refine lv_aload_n hx hb dX8_readsNumbers_94 rfl (lv_at hl 2 rfl) ?_
            refine va_get (D := D) (ci := 8) (v := .int (m_readAt_2 + (1 : Int32))) (C := RX8) (T := TX8) (N := 19) hx hb hts iX8 hown hK hP 0 rfl rfl 2 (by decide) k_f65 (fun _ h9 => h9) rfl dX8_readsNumbers_95 ?_
            obtain ⟨r18, hb19, hF⟩ := op_bind hF
            refine xVr (As := [.int (m_readAt_2 + (1 : Int32))]) (rest := []) hC hP hD hS [0, 1] (c_X8_letterAt l D cI cC cM ax a_text a_told a_readLaw a_readNow a_law a_now a_tried a_undos a_seenHour a_seenAt a_parts a_partsThen a_kept m_letterMany (m_readAt_2 + (1 : Int32)) m_undoMany m_undoAt m_seenMany m_keptMany m_text (m_readAt_2 + (1 : Int32)) r18 hb19) (cwV 1 hts gX8_readsNumbers_X8_letterAt rfl rfl rfl ⟨rfl, pd_X8_letterAt⟩ ⟨Nat.le_of_ble_eq_true rfl, Nat.le_of_ble_eq_true rfl⟩) rfl rfl 0 8 rfl rfl rfl rfl hl.1 rfl (Nat.le_of_ble_eq_true rfl) dX8_readsNumbers_98 ⟨Nat.zero_le _, Nat.zero_le _⟩ (fun H locs hP hS => ?_)
            refine lv_iload_n hx hb dX8_readsNumbers_101 rfl (lv_at hl 1 rfl) ?_
            refine lv_iload_n hx hb dX8_readsNumbers_102 rfl (lv_at hl 3 rfl) ?_
            refine lv_iconst (v := (1 : Int32)) hx hb dX8_readsNumbers_103 (by decide) ?_
            refine lv_isub hx hb dX8_readsNumbers_104 ?_
            refine lv_icmp_ne (tgt := 113) hx hb dX8_readsNumbers_105 (by decide) (fun c20 => ?_) (fun c20 => ?_)
            · have hF := op_neg c20 hF
              refine lv_bipush (v := (44 : Int32)) hx hb dX8_readsNumbers_113 (by decide) ?_
              refine lv_icmp_eq (tgt := 120) hx hb dX8_readsNumbers_115 (by decide) (fun c21 => ?_) (fun c21 => ?_)
              · have hF := op_pos c21 hF
                refine lv_aload_n hx hb dX8_readsNumbers_120 rfl (lv_at hl 2 rfl) ?_
                refine lv_dup hx hb dX8_readsNumbers_121 rfl ?_
                refine va_get (D := D) (ci := 8) (v := .int (m_readAt_2 + (1 : Int32))) (C := RX8) (T := TX8) (N := 19) hx hb hts iX8 hown hK hP 0 rfl rfl 2 (by decide) k_f65 (fun _ h9 => h9) rfl dX8_readsNumbers_122 ?_
                refine lv_iconst (v := (1 : Int32)) hx hb dX8_readsNumbers_125 (by decide) ?_
                refine lv_iadd hx hb dX8_readsNumbers_126 ?_
                refine va_put (D := D) (ci := 8) (v := .int ((m_readAt_2 + (1 : Int32)) + (1 : Int32))) (ty := .int) (C := RX8) (T := TX8) (N := 19) hx hb hts iX8 tyX8 tyX8_ok nmX8 hown hK hP hD hS 0 rfl rfl 2 (by decide) k_f65 (fun _ h9 => h9) rfl (by decide +kernel) rfl rfl (Nat.le_of_ble_eq_true rfl) dX8_readsNumbers_127 (fun H locs hP hD hS => ?_)
                have hP : va_P D vwCl [(ax, .inr (8, [.int m_letterMany, .ref a_text, .int ((m_readAt_2 + (1 : Int32)) + (1 : Int32)), .ref a_told, .ref a_readLaw, .ref a_readNow, .ref a_law, .ref a_now, .ref a_tried, .int m_undoMany, .int m_undoAt, .ref a_undos, .int m_seenMany, .ref a_seenHour, .ref a_seenAt, .ref a_parts, .ref a_partsThen, .int m_keptMany, .ref a_kept])), (a_text, .inl (cI, 200, .inl m_text)), (a_told, .inl (cI, 3, .inl (upd m_told_3 v1.toNatClampNeg (r10 - (48 : Int32)))))] H := hP
                have hD : va_D A [(ax, .inr (8, [.int m_letterMany, .ref a_text, .int ((m_readAt_2 + (1 : Int32)) + (1 : Int32)), .ref a_told, .ref a_readLaw, .ref a_readNow, .ref a_law, .ref a_now, .ref a_tried, .int m_undoMany, .int m_undoAt, .ref a_undos, .int m_seenMany, .ref a_seenHour, .ref a_seenAt, .ref a_parts, .ref a_partsThen, .int m_keptMany, .ref a_kept])), (a_text, .inl (cI, 200, .inl m_text)), (a_told, .inl (cI, 3, .inl (upd m_told_3 v1.toNatClampNeg (r10 - (48 : Int32)))))] := hD
                refine lv_iinc (v := (v1 + (1 : Int32))) (lv' := [(2, .int (v1 + (1 : Int32))), (3, .int (r10 - (48 : Int32))), (0, .ref ax), (1, .int i)]) hx hb dX8_readsNumbers_130 hl (k := 1) rfl (by first | rfl | decide) (by decide) rfl (fun ls hl => ?_)
                refine lv_goto (tgt := 2) hx hb dX8_readsNumbers_133 (by decide) ?_
                exact ih2 (v1 + (1 : Int32)) ((m_readAt_2 + (1 : Int32)) + (1 : Int32)) (upd m_told_3 v1.toNatClampNeg (r10 - (48 : Int32))) _ _ hP hD hS _ (lv_sub hl [0, 2, 3] rfl) hF
              · have hF := op_neg c21 hF
                refine lv_iconst (v := (0 : Int32)) hx hb dX8_readsNumbers_118 (by decide) ?_
                cases hF
                rw [hQ]
                exact xrz hC rfl hP hS dX8_readsNumbers_119
            · have hF := op_pos c20 hF
              refine lv_bipush (v := (59 : Int32)) hx hb dX8_readsNumbers_108 (by decide) ?_
              refine lv_goto (tgt := 115) hx hb dX8_readsNumbers_110 (by decide) ?_
              refine lv_icmp_eq (tgt := 120) hx hb dX8_readsNumbers_115 (by decide) (fun c22 => ?_) (fun c22 => ?_)
              · have hF := op_pos c22 hF
                refine lv_aload_n hx hb dX8_readsNumbers_120 rfl (lv_at hl 2 rfl) ?_
                refine lv_dup hx hb dX8_readsNumbers_121 rfl ?_
                refine va_get (D := D) (ci := 8) (v := .int (m_readAt_2 + (1 : Int32))) (C := RX8) (T := TX8) (N := 19) hx hb hts iX8 hown hK hP 0 rfl rfl 2 (by decide) k_f65 (fun _ h9 => h9) rfl dX8_readsNumbers_122 ?_
                refine lv_iconst (v := (1 : Int32)) hx hb dX8_readsNumbers_125 (by decide) ?_
                refine lv_iadd hx hb dX8_readsNumbers_126 ?_
                refine va_put (D := D) (ci := 8) (v := .int ((m_readAt_2 + (1 : Int32)) + (1 : Int32))) (ty := .int) (C := RX8) (T := TX8) (N := 19) hx hb hts iX8 tyX8 tyX8_ok nmX8 hown hK hP hD hS 0 rfl rfl 2 (by decide) k_f65 (fun _ h9 => h9) rfl (by decide +kernel) rfl rfl (Nat.le_of_ble_eq_true rfl) dX8_readsNumbers_127 (fun H locs hP hD hS => ?_)
                have hP : va_P D vwCl [(ax, .inr (8, [.int m_letterMany, .ref a_text, .int ((m_readAt_2 + (1 : Int32)) + (1 : Int32)), .ref a_told, .ref a_readLaw, .ref a_readNow, .ref a_law, .ref a_now, .ref a_tried, .int m_undoMany, .int m_undoAt, .ref a_undos, .int m_seenMany, .ref a_seenHour, .ref a_seenAt, .ref a_parts, .ref a_partsThen, .int m_keptMany, .ref a_kept])), (a_text, .inl (cI, 200, .inl m_text)), (a_told, .inl (cI, 3, .inl (upd m_told_3 v1.toNatClampNeg (r10 - (48 : Int32)))))] H := hP
                have hD : va_D A [(ax, .inr (8, [.int m_letterMany, .ref a_text, .int ((m_readAt_2 + (1 : Int32)) + (1 : Int32)), .ref a_told, .ref a_readLaw, .ref a_readNow, .ref a_law, .ref a_now, .ref a_tried, .int m_undoMany, .int m_undoAt, .ref a_undos, .int m_seenMany, .ref a_seenHour, .ref a_seenAt, .ref a_parts, .ref a_partsThen, .int m_keptMany, .ref a_kept])), (a_text, .inl (cI, 200, .inl m_text)), (a_told, .inl (cI, 3, .inl (upd m_told_3 v1.toNatClampNeg (r10 - (48 : Int32)))))] := hD
                refine lv_iinc (v := (v1 + (1 : Int32))) (lv' := [(2, .int (v1 + (1 : Int32))), (3, .int (r10 - (48 : Int32))), (0, .ref ax), (1, .int i)]) hx hb dX8_readsNumbers_130 hl (k := 1) rfl (by first | rfl | decide) (by decide) rfl (fun ls hl => ?_)
                refine lv_goto (tgt := 2) hx hb dX8_readsNumbers_133 (by decide) ?_
                exact ih2 (v1 + (1 : Int32)) ((m_readAt_2 + (1 : Int32)) + (1 : Int32)) (upd m_told_3 v1.toNatClampNeg (r10 - (48 : Int32))) _ _ hP hD hS _ (lv_sub hl [0, 2, 3] rfl) hF
              · have hF := op_neg c22 hF
                refine lv_iconst (v := (0 : Int32)) hx hb dX8_readsNumbers_118 (by decide) ?_
                cases hF
                rw [hQ]
                exact xrz hC rfl hP hS dX8_readsNumbers_119
          · have hF := op_neg c16 hF
            refine lv_bipush (v := (10 : Int32)) hx hb dX8_readsNumbers_59 (by decide) ?_
            refine lv_iload_n hx hb dX8_readsNumbers_61 rfl (lv_at hl 0 rfl) ?_
            refine lv_imul hx hb dX8_readsNumbers_62 ?_
            refine lv_aload_n hx hb dX8_readsNumbers_63 rfl (lv_at hl 2 rfl) ?_
            refine lv_aload_n hx hb dX8_readsNumbers_64 rfl (lv_at hl 2 rfl) ?_
            refine va_get (D := D) (ci := 8) (v := .int (m_readAt_2 + (1 : Int32))) (C := RX8) (T := TX8) (N := 19) hx hb hts iX8 hown hK hP 0 rfl rfl 2 (by decide) k_f65 (fun _ h9 => h9) rfl dX8_readsNumbers_65 ?_
            obtain ⟨r23, hb24, hF⟩ := op_bind hF
            refine xVr (As := [.int (m_readAt_2 + (1 : Int32))]) (rest := [.int ((10 : Int32) * (r10 - (48 : Int32)))]) hC hP hD hS [0, 1] (c_X8_letterAt l D cI cC cM ax a_text a_told a_readLaw a_readNow a_law a_now a_tried a_undos a_seenHour a_seenAt a_parts a_partsThen a_kept m_letterMany (m_readAt_2 + (1 : Int32)) m_undoMany m_undoAt m_seenMany m_keptMany m_text (m_readAt_2 + (1 : Int32)) r23 hb24) (cwV 1 hts gX8_readsNumbers_X8_letterAt rfl rfl rfl ⟨rfl, pd_X8_letterAt⟩ ⟨Nat.le_of_ble_eq_true rfl, Nat.le_of_ble_eq_true rfl⟩) rfl rfl 0 8 rfl rfl rfl rfl hl.1 rfl (Nat.le_of_ble_eq_true rfl) dX8_readsNumbers_68 ⟨Nat.zero_le _, Nat.zero_le _⟩ (fun H locs hP hS => ?_)
            refine lv_iadd hx hb dX8_readsNumbers_71 ?_
            refine lv_bipush (v := (48 : Int32)) hx hb dX8_readsNumbers_72 (by decide) ?_
            refine lv_isub hx hb dX8_readsNumbers_74 ?_
            refine lv_istore_n (lv' := [(3, .int ((((10 : Int32) * (r10 - (48 : Int32))) + r23) - (48 : Int32))), (2, .int v1), (0, .ref ax), (1, .int i)]) hx hb dX8_readsNumbers_75 rfl hl (by decide) rfl (fun ls hl => ?_)
            refine lv_aload_n hx hb dX8_readsNumbers_76 rfl (lv_at hl 2 rfl) ?_
            refine lv_dup hx hb dX8_readsNumbers_77 rfl ?_
            refine va_get (D := D) (ci := 8) (v := .int (m_readAt_2 + (1 : Int32))) (C := RX8) (T := TX8) (N := 19) hx hb hts iX8 hown hK hP 0 rfl rfl 2 (by decide) k_f65 (fun _ h9 => h9) rfl dX8_readsNumbers_78 ?_
            refine lv_iconst (v := (1 : Int32)) hx hb dX8_readsNumbers_81 (by decide) ?_
            refine lv_iadd hx hb dX8_readsNumbers_82 ?_
            refine va_put (D := D) (ci := 8) (v := .int ((m_readAt_2 + (1 : Int32)) + (1 : Int32))) (ty := .int) (C := RX8) (T := TX8) (N := 19) hx hb hts iX8 tyX8 tyX8_ok nmX8 hown hK hP hD hS 0 rfl rfl 2 (by decide) k_f65 (fun _ h9 => h9) rfl (by decide +kernel) rfl rfl (Nat.le_of_ble_eq_true rfl) dX8_readsNumbers_83 (fun H locs hP hD hS => ?_)
            have hP : va_P D vwCl [(ax, .inr (8, [.int m_letterMany, .ref a_text, .int ((m_readAt_2 + (1 : Int32)) + (1 : Int32)), .ref a_told, .ref a_readLaw, .ref a_readNow, .ref a_law, .ref a_now, .ref a_tried, .int m_undoMany, .int m_undoAt, .ref a_undos, .int m_seenMany, .ref a_seenHour, .ref a_seenAt, .ref a_parts, .ref a_partsThen, .int m_keptMany, .ref a_kept])), (a_text, .inl (cI, 200, .inl m_text)), (a_told, .inl (cI, 3, .inl m_told_3))] H := hP
            have hD : va_D A [(ax, .inr (8, [.int m_letterMany, .ref a_text, .int ((m_readAt_2 + (1 : Int32)) + (1 : Int32)), .ref a_told, .ref a_readLaw, .ref a_readNow, .ref a_law, .ref a_now, .ref a_tried, .int m_undoMany, .int m_undoAt, .ref a_undos, .int m_seenMany, .ref a_seenHour, .ref a_seenAt, .ref a_parts, .ref a_partsThen, .int m_keptMany, .ref a_kept])), (a_text, .inl (cI, 200, .inl m_text)), (a_told, .inl (cI, 3, .inl m_told_3))] := hD
            refine lv_aload_n hx hb dX8_readsNumbers_86 rfl (lv_at hl 2 rfl) ?_
            refine va_get (D := D) (ci := 8) (v := .ref a_told) (C := RX8) (T := TX8) (N := 19) hx hb hts iX8 hown hK hP 0 rfl rfl 3 (by decide) k_f13 (fun _ h9 => h9) rfl dX8_readsNumbers_87 ?_
            refine lv_iload_n hx hb dX8_readsNumbers_90 rfl (lv_at hl 1 rfl) ?_
            refine lv_iload_n hx hb dX8_readsNumbers_91 rfl (lv_at hl 0 rfl) ?_
            obtain ⟨o25, hF⟩ := op_ob hF
            refine va_iast hx hb hK hP hD hS 2 0 rfl rfl (okb_in o25) dX8_readsNumbers_92 (fun H locs hP hD hS => ?_)
            have hP : va_P D vwCl [(ax, .inr (8, [.int m_letterMany, .ref a_text, .int ((m_readAt_2 + (1 : Int32)) + (1 : Int32)), .ref a_told, .ref a_readLaw, .ref a_readNow, .ref a_law, .ref a_now, .ref a_tried, .int m_undoMany, .int m_undoAt, .ref a_undos, .int m_seenMany, .ref a_seenHour, .ref a_seenAt, .ref a_parts, .ref a_partsThen, .int m_keptMany, .ref a_kept])), (a_text, .inl (cI, 200, .inl m_text)), (a_told, .inl (cI, 3, .inl (upd m_told_3 v1.toNatClampNeg ((((10 : Int32) * (r10 - (48 : Int32))) + r23) - (48 : Int32)))))] H := hP
            have hD : va_D A [(ax, .inr (8, [.int m_letterMany, .ref a_text, .int ((m_readAt_2 + (1 : Int32)) + (1 : Int32)), .ref a_told, .ref a_readLaw, .ref a_readNow, .ref a_law, .ref a_now, .ref a_tried, .int m_undoMany, .int m_undoAt, .ref a_undos, .int m_seenMany, .ref a_seenHour, .ref a_seenAt, .ref a_parts, .ref a_partsThen, .int m_keptMany, .ref a_kept])), (a_text, .inl (cI, 200, .inl m_text)), (a_told, .inl (cI, 3, .inl (upd m_told_3 v1.toNatClampNeg ((((10 : Int32) * (r10 - (48 : Int32))) + r23) - (48 : Int32)))))] := hD
            refine lv_aload_n hx hb dX8_readsNumbers_93 rfl (lv_at hl 2 rfl) ?_
            refine lv_aload_n hx hb dX8_readsNumbers_94 rfl (lv_at hl 2 rfl) ?_
            refine va_get (D := D) (ci := 8) (v := .int ((m_readAt_2 + (1 : Int32)) + (1 : Int32))) (C := RX8) (T := TX8) (N := 19) hx hb hts iX8 hown hK hP 0 rfl rfl 2 (by decide) k_f65 (fun _ h9 => h9) rfl dX8_readsNumbers_95 ?_
            obtain ⟨r26, hb27, hF⟩ := op_bind hF
            refine xVr (As := [.int ((m_readAt_2 + (1 : Int32)) + (1 : Int32))]) (rest := []) hC hP hD hS [0, 1] (c_X8_letterAt l D cI cC cM ax a_text a_told a_readLaw a_readNow a_law a_now a_tried a_undos a_seenHour a_seenAt a_parts a_partsThen a_kept m_letterMany ((m_readAt_2 + (1 : Int32)) + (1 : Int32)) m_undoMany m_undoAt m_seenMany m_keptMany m_text ((m_readAt_2 + (1 : Int32)) + (1 : Int32)) r26 hb27) (cwV 1 hts gX8_readsNumbers_X8_letterAt rfl rfl rfl ⟨rfl, pd_X8_letterAt⟩ ⟨Nat.le_of_ble_eq_true rfl, Nat.le_of_ble_eq_true rfl⟩) rfl rfl 0 8 rfl rfl rfl rfl hl.1 rfl (Nat.le_of_ble_eq_true rfl) dX8_readsNumbers_98 ⟨Nat.zero_le _, Nat.zero_le _⟩ (fun H locs hP hS => ?_)
            refine lv_iload_n hx hb dX8_readsNumbers_101 rfl (lv_at hl 1 rfl) ?_
            refine lv_iload_n hx hb dX8_readsNumbers_102 rfl (lv_at hl 3 rfl) ?_
            refine lv_iconst (v := (1 : Int32)) hx hb dX8_readsNumbers_103 (by decide) ?_
            refine lv_isub hx hb dX8_readsNumbers_104 ?_
            refine lv_icmp_ne (tgt := 113) hx hb dX8_readsNumbers_105 (by decide) (fun c28 => ?_) (fun c28 => ?_)
            · have hF := op_neg c28 hF
              refine lv_bipush (v := (44 : Int32)) hx hb dX8_readsNumbers_113 (by decide) ?_
              refine lv_icmp_eq (tgt := 120) hx hb dX8_readsNumbers_115 (by decide) (fun c29 => ?_) (fun c29 => ?_)
              · have hF := op_pos c29 hF
                refine lv_aload_n hx hb dX8_readsNumbers_120 rfl (lv_at hl 2 rfl) ?_
                refine lv_dup hx hb dX8_readsNumbers_121 rfl ?_
                refine va_get (D := D) (ci := 8) (v := .int ((m_readAt_2 + (1 : Int32)) + (1 : Int32))) (C := RX8) (T := TX8) (N := 19) hx hb hts iX8 hown hK hP 0 rfl rfl 2 (by decide) k_f65 (fun _ h9 => h9) rfl dX8_readsNumbers_122 ?_
                refine lv_iconst (v := (1 : Int32)) hx hb dX8_readsNumbers_125 (by decide) ?_
                refine lv_iadd hx hb dX8_readsNumbers_126 ?_
                refine va_put (D := D) (ci := 8) (v := .int (((m_readAt_2 + (1 : Int32)) + (1 : Int32)) + (1 : Int32))) (ty := .int) (C := RX8) (T := TX8) (N := 19) hx hb hts iX8 tyX8 tyX8_ok nmX8 hown hK hP hD hS 0 rfl rfl 2 (by decide) k_f65 (fun _ h9 => h9) rfl (by decide +kernel) rfl rfl (Nat.le_of_ble_eq_true rfl) dX8_readsNumbers_127 (fun H locs hP hD hS => ?_)
                have hP : va_P D vwCl [(ax, .inr (8, [.int m_letterMany, .ref a_text, .int (((m_readAt_2 + (1 : Int32)) + (1 : Int32)) + (1 : Int32)), .ref a_told, .ref a_readLaw, .ref a_readNow, .ref a_law, .ref a_now, .ref a_tried, .int m_undoMany, .int m_undoAt, .ref a_undos, .int m_seenMany, .ref a_seenHour, .ref a_seenAt, .ref a_parts, .ref a_partsThen, .int m_keptMany, .ref a_kept])), (a_text, .inl (cI, 200, .inl m_text)), (a_told, .inl (cI, 3, .inl (upd m_told_3 v1.toNatClampNeg ((((10 : Int32) * (r10 - (48 : Int32))) + r23) - (48 : Int32)))))] H := hP
                have hD : va_D A [(ax, .inr (8, [.int m_letterMany, .ref a_text, .int (((m_readAt_2 + (1 : Int32)) + (1 : Int32)) + (1 : Int32)), .ref a_told, .ref a_readLaw, .ref a_readNow, .ref a_law, .ref a_now, .ref a_tried, .int m_undoMany, .int m_undoAt, .ref a_undos, .int m_seenMany, .ref a_seenHour, .ref a_seenAt, .ref a_parts, .ref a_partsThen, .int m_keptMany, .ref a_kept])), (a_text, .inl (cI, 200, .inl m_text)), (a_told, .inl (cI, 3, .inl (upd m_told_3 v1.toNatClampNeg ((((10 : Int32) * (r10 - (48 : Int32))) + r23) - (48 : Int32)))))] := hD
                refine lv_iinc (v := (v1 + (1 : Int32))) (lv' := [(2, .int (v1 + (1 : Int32))), (3, .int ((((10 : Int32) * (r10 - (48 : Int32))) + r23) - (48 : Int32))), (0, .ref ax), (1, .int i)]) hx hb dX8_readsNumbers_130 hl (k := 1) rfl (by first | rfl | decide) (by decide) rfl (fun ls hl => ?_)
                refine lv_goto (tgt := 2) hx hb dX8_readsNumbers_133 (by decide) ?_
                exact ih2 (v1 + (1 : Int32)) (((m_readAt_2 + (1 : Int32)) + (1 : Int32)) + (1 : Int32)) (upd m_told_3 v1.toNatClampNeg ((((10 : Int32) * (r10 - (48 : Int32))) + r23) - (48 : Int32))) _ _ hP hD hS _ (lv_sub hl [0, 2, 3] rfl) hF
              · have hF := op_neg c29 hF
                refine lv_iconst (v := (0 : Int32)) hx hb dX8_readsNumbers_118 (by decide) ?_
                cases hF
                rw [hQ]
                exact xrz hC rfl hP hS dX8_readsNumbers_119
            · have hF := op_pos c28 hF
              refine lv_bipush (v := (59 : Int32)) hx hb dX8_readsNumbers_108 (by decide) ?_
              refine lv_goto (tgt := 115) hx hb dX8_readsNumbers_110 (by decide) ?_
              refine lv_icmp_eq (tgt := 120) hx hb dX8_readsNumbers_115 (by decide) (fun c30 => ?_) (fun c30 => ?_)
              · have hF := op_pos c30 hF
                refine lv_aload_n hx hb dX8_readsNumbers_120 rfl (lv_at hl 2 rfl) ?_
                refine lv_dup hx hb dX8_readsNumbers_121 rfl ?_
                refine va_get (D := D) (ci := 8) (v := .int ((m_readAt_2 + (1 : Int32)) + (1 : Int32))) (C := RX8) (T := TX8) (N := 19) hx hb hts iX8 hown hK hP 0 rfl rfl 2 (by decide) k_f65 (fun _ h9 => h9) rfl dX8_readsNumbers_122 ?_
                refine lv_iconst (v := (1 : Int32)) hx hb dX8_readsNumbers_125 (by decide) ?_
                refine lv_iadd hx hb dX8_readsNumbers_126 ?_
                refine va_put (D := D) (ci := 8) (v := .int (((m_readAt_2 + (1 : Int32)) + (1 : Int32)) + (1 : Int32))) (ty := .int) (C := RX8) (T := TX8) (N := 19) hx hb hts iX8 tyX8 tyX8_ok nmX8 hown hK hP hD hS 0 rfl rfl 2 (by decide) k_f65 (fun _ h9 => h9) rfl (by decide +kernel) rfl rfl (Nat.le_of_ble_eq_true rfl) dX8_readsNumbers_127 (fun H locs hP hD hS => ?_)
                have hP : va_P D vwCl [(ax, .inr (8, [.int m_letterMany, .ref a_text, .int (((m_readAt_2 + (1 : Int32)) + (1 : Int32)) + (1 : Int32)), .ref a_told, .ref a_readLaw, .ref a_readNow, .ref a_law, .ref a_now, .ref a_tried, .int m_undoMany, .int m_undoAt, .ref a_undos, .int m_seenMany, .ref a_seenHour, .ref a_seenAt, .ref a_parts, .ref a_partsThen, .int m_keptMany, .ref a_kept])), (a_text, .inl (cI, 200, .inl m_text)), (a_told, .inl (cI, 3, .inl (upd m_told_3 v1.toNatClampNeg ((((10 : Int32) * (r10 - (48 : Int32))) + r23) - (48 : Int32)))))] H := hP
                have hD : va_D A [(ax, .inr (8, [.int m_letterMany, .ref a_text, .int (((m_readAt_2 + (1 : Int32)) + (1 : Int32)) + (1 : Int32)), .ref a_told, .ref a_readLaw, .ref a_readNow, .ref a_law, .ref a_now, .ref a_tried, .int m_undoMany, .int m_undoAt, .ref a_undos, .int m_seenMany, .ref a_seenHour, .ref a_seenAt, .ref a_parts, .ref a_partsThen, .int m_keptMany, .ref a_kept])), (a_text, .inl (cI, 200, .inl m_text)), (a_told, .inl (cI, 3, .inl (upd m_told_3 v1.toNatClampNeg ((((10 : Int32) * (r10 - (48 : Int32))) + r23) - (48 : Int32)))))] := hD
                refine lv_iinc (v := (v1 + (1 : Int32))) (lv' := [(2, .int (v1 + (1 : Int32))), (3, .int ((((10 : Int32) * (r10 - (48 : Int32))) + r23) - (48 : Int32))), (0, .ref ax), (1, .int i)]) hx hb dX8_readsNumbers_130 hl (k := 1) rfl (by first | rfl | decide) (by decide) rfl (fun ls hl => ?_)
                refine lv_goto (tgt := 2) hx hb dX8_readsNumbers_133 (by decide) ?_
                exact ih2 (v1 + (1 : Int32)) (((m_readAt_2 + (1 : Int32)) + (1 : Int32)) + (1 : Int32)) (upd m_told_3 v1.toNatClampNeg ((((10 : Int32) * (r10 - (48 : Int32))) + r23) - (48 : Int32))) _ _ hP hD hS _ (lv_sub hl [0, 2, 3] rfl) hF
              · have hF := op_neg c30 hF
                refine lv_iconst (v := (0 : Int32)) hx hb dX8_readsNumbers_118 (by decide) ?_
                cases hF
                rw [hQ]
                exact xrz hC rfl hP hS dX8_readsNumbers_119
        · have hF := op_pos c9 hF
          refine lv_iconst (v := (0 : Int32)) hx hb dX8_readsNumbers_21 (by decide) ?_
          cases hF
          rw [hQ]
          exact xrz hC rfl hP hS dX8_readsNumbers_22
  refine hL2 _ (fun v1 m_readAt_2 m_told_3 H locs hP hD hS ls hl hF => ?_) 20000 (0 : Int32) m_readAt m_told _ _ hP hD hS _ (lv_sub hl [0, 1, 2] rfl) hF
  refine lv_iconst (v := (1 : Int32)) hx hb dX8_readsNumbers_136 (by decide) ?_
  cases hF
  rw [hQ]
  exact xrz hC rfl hP hS dX8_readsNumbers_137

def f_X8_readsSquares (m_letterMany : Int32) (m_readAt : Int32) (m_text : (Nat → Int32)) (m_told : (Nat → Int32)) (m_readLaw : (Nat → Int32)) : Option (Int32 × Int32 × (Nat → Int32) × (Nat → Int32)) := (Option.bind (f_X8_readsNumbers m_letterMany m_readAt m_text m_told (1 : Int32)) fun (r1, m_readAt_2, m_told_3) => (if r1 = 0 then (some ((0 : Int32), m_readAt_2, m_told_3, m_readLaw)) else (Option.bind (f_X8_in (m_told_3 (0 : Int32).toNatClampNeg) (1 : Int32) (9 : Int32)) fun r6 => (if r6 = 0 then (some ((0 : Int32), m_readAt_2, m_told_3, m_readLaw)) else (if (((m_readLaw (1 : Int32).toNatClampNeg) + (m_readLaw (2 : Int32).toNatClampNeg)) + (m_readLaw (3 : Int32).toNatClampNeg)) ≤ 0 then (some ((1 : Int32), m_readAt_2, m_told_3, (upd m_readLaw (0 : Int32).toNatClampNeg (m_told_3 (0 : Int32).toNatClampNeg)))) else (some ((0 : Int32), m_readAt_2, m_told_3, m_readLaw)))))))

def rm_X8_readsSquares : Room := { frames := 3, cells := 0, slots := 0, locals := 65 }

theorem pd_X8_readsSquares : yX8_readsSquares.cls ≠ "java/lang/invoke/MethodHandle" ∧ yX8_readsSquares.cls ≠ "java/lang/invoke/VarHandle" ∧ (parseMethodDescriptor yX8_readsSquares.desc).map (fun d => d.parameters.length) = some 0 := by decide +kernel

set_option maxHeartbeats 4000000 in
set_option maxRecDepth 100000 in
theorem c_X8_readsSquares (l : Launch) (D : va_G) (cI cC cM : ClassId) (ax a_text a_told a_readLaw a_readNow a_law a_now a_tried a_undos a_seenHour a_seenAt a_parts a_partsThen a_kept : Nat) (m_letterMany : Int32) (m_readAt : Int32) (m_undoMany : Int32) (m_undoAt : Int32) (m_seenMany : Int32) (m_keptMany : Int32) (m_text : (Nat → Int32)) (m_told : (Nat → Int32)) (m_readLaw : (Nat → Int32)) (rr : Int32) (m_readAt' : Int32) (m_told' : (Nat → Int32)) (m_readLaw' : (Nat → Int32)) (hF : f_X8_readsSquares m_letterMany m_readAt m_text m_told m_readLaw = some (rr, m_readAt', m_told', m_readLaw')) : CI l D cI cC cM yX8_readsSquares wsX8_readsSquares rm_X8_readsSquares [.ref ax] [(ax, .inr (8, [.int m_letterMany, .ref a_text, .int m_readAt, .ref a_told, .ref a_readLaw, .ref a_readNow, .ref a_law, .ref a_now, .ref a_tried, .int m_undoMany, .int m_undoAt, .ref a_undos, .int m_seenMany, .ref a_seenHour, .ref a_seenAt, .ref a_parts, .ref a_partsThen, .int m_keptMany, .ref a_kept])), (a_text, .inl (cI, 200, .inl m_text)), (a_told, .inl (cI, 3, .inl m_told)), (a_readLaw, .inl (cI, 22, .inl m_readLaw))] [(ax, .inr (8, [.int m_letterMany, .ref a_text, .int m_readAt', .ref a_told, .ref a_readLaw, .ref a_readNow, .ref a_law, .ref a_now, .ref a_tried, .int m_undoMany, .int m_undoAt, .ref a_undos, .int m_seenMany, .ref a_seenHour, .ref a_seenAt, .ref a_parts, .ref a_partsThen, .int m_keptMany, .ref a_kept])), (a_text, .inl (cI, 200, .inl m_text)), (a_told, .inl (cI, 3, .inl m_told')), (a_readLaw, .inl (cI, 22, .inl m_readLaw'))] rr := by
  refine CI.of (cc := cX8_readsSquares) (nL := 1) (ret := (some .boolean)) (by decide) rfl (Nat.le_of_ble_eq_true rfl) ?_
  intro p e s m args below meth c A hC hP hD hS ls hl
  obtain ⟨hx, hb, hml, hown, hts, hr, hlk, hG, hA⟩ := id hC
  have hown : s.vm.findClass RX8 = some m.cls := hown
  have hK := hG.1
  have hl : lv_has ls 1 [(0, .ref ax)] := hl
  have k_f13 := hts (.fieldLink RX8 13 "ParasolHoursModel" "told" "[I") (List.mem_of_getElem? (i := 1) rfl)
  have k_f16 := hts (.fieldLink RX8 16 "ParasolHoursModel" "readLaw" "[I") (List.mem_of_getElem? (i := 2) rfl)
  have iX8 : ∀ w ∈ wsX80, w ∈ wsX8_readsSquares := by decide +kernel
  obtain ⟨Q, hQ⟩ : ∃ Q, Q = MQ below (QI D [(ax, .inr (8, [.int m_letterMany, .ref a_text, .int m_readAt', .ref a_told, .ref a_readLaw, .ref a_readNow, .ref a_law, .ref a_now, .ref a_tried, .int m_undoMany, .int m_undoAt, .ref a_undos, .int m_seenMany, .ref a_seenHour, .ref a_seenAt, .ref a_parts, .ref a_partsThen, .int m_keptMany, .ref a_kept])), (a_text, .inl (cI, 200, .inl m_text)), (a_told, .inl (cI, 3, .inl m_told')), (a_readLaw, .inl (cI, 22, .inl m_readLaw'))] rr A) args s 0 0 A := ⟨_, rfl⟩
  rw [← hQ]
  unfold f_X8_readsSquares at hF
  refine lv_aload_n hx hb dX8_readsSquares_0 rfl (lv_at hl 0 rfl) ?_
  refine lv_iconst (v := (1 : Int32)) hx hb dX8_readsSquares_1 (by decide) ?_
  obtain ⟨⟨r1, m_readAt_2, m_told_3⟩, hb4, hF⟩ := op_bind hF
  refine xVi (As := [.int (1 : Int32)]) (rest := []) hC hP hD hS [0, 1, 2] (c_X8_readsNumbers l D cI cC cM ax a_text a_told a_readLaw a_readNow a_law a_now a_tried a_undos a_seenHour a_seenAt a_parts a_partsThen a_kept m_letterMany m_readAt m_undoMany m_undoAt m_seenMany m_keptMany m_text m_told (1 : Int32) r1 m_readAt_2 m_told_3 hb4) (cwV 1 hts gX8_readsSquares_X8_readsNumbers rfl rfl rfl ⟨rfl, pd_X8_readsNumbers⟩ ⟨Nat.le_of_ble_eq_true rfl, Nat.le_of_ble_eq_true rfl⟩) rfl rfl rfl 0 8 rfl rfl rfl rfl hl.1 rfl (Nat.le_of_ble_eq_true rfl) dX8_readsSquares_2 ⟨Nat.zero_le _, Nat.zero_le _⟩ (fun H locs hP hD hS => ?_)
  have hP : va_P D vwCl [(ax, .inr (8, [.int m_letterMany, .ref a_text, .int m_readAt_2, .ref a_told, .ref a_readLaw, .ref a_readNow, .ref a_law, .ref a_now, .ref a_tried, .int m_undoMany, .int m_undoAt, .ref a_undos, .int m_seenMany, .ref a_seenHour, .ref a_seenAt, .ref a_parts, .ref a_partsThen, .int m_keptMany, .ref a_kept])), (a_text, .inl (cI, 200, .inl m_text)), (a_told, .inl (cI, 3, .inl m_told_3)), (a_readLaw, .inl (cI, 22, .inl m_readLaw))] H := hP
  have hD : va_D A [(ax, .inr (8, [.int m_letterMany, .ref a_text, .int m_readAt_2, .ref a_told, .ref a_readLaw, .ref a_readNow, .ref a_law, .ref a_now, .ref a_tried, .int m_undoMany, .int m_undoAt, .ref a_undos, .int m_seenMany, .ref a_seenHour, .ref a_seenAt, .ref a_parts, .ref a_partsThen, .int m_keptMany, .ref a_kept])), (a_text, .inl (cI, 200, .inl m_text)), (a_told, .inl (cI, 3, .inl m_told_3)), (a_readLaw, .inl (cI, 22, .inl m_readLaw))] := hD
  refine lv_if_eq (tgt := 46) hx hb dX8_readsSquares_5 (by decide) (fun c5 => ?_) (fun c5 => ?_)
  · have hF := op_pos c5 hF
    refine lv_iconst (v := (0 : Int32)) hx hb dX8_readsSquares_46 (by decide) ?_
    cases hF
    rw [hQ]
    exact xrz hC rfl hP hS dX8_readsSquares_47
  · have hF := op_neg c5 hF
    refine lv_aload_n hx hb dX8_readsSquares_8 rfl (lv_at hl 0 rfl) ?_
    refine va_get (D := D) (ci := 8) (v := .ref a_told) (C := RX8) (T := TX8) (N := 19) hx hb hts iX8 hown hK hP 0 rfl rfl 3 (by decide) k_f13 (fun _ h9 => h9) rfl dX8_readsSquares_9 ?_
    refine lv_iconst (v := (0 : Int32)) hx hb dX8_readsSquares_12 (by decide) ?_
    refine va_iald hx hb hK hP 2 0 rfl rfl (okb_in (by decide)) dX8_readsSquares_13 ?_
    refine lv_iconst (v := (1 : Int32)) hx hb dX8_readsSquares_14 (by decide) ?_
    refine lv_bipush (v := (9 : Int32)) hx hb dX8_readsSquares_15 (by decide) ?_
    obtain ⟨r6, hb7, hF⟩ := op_bind hF
    refine xSr (As := [.int (m_told_3 (0 : Int32).toNatClampNeg), .int (1 : Int32), .int (9 : Int32)]) (rest := []) hC hP hD hS [] (c_X8_in l D cI cC cM (m_told_3 (0 : Int32).toNatClampNeg) (1 : Int32) (9 : Int32) r6 hb7) (va_cwS 3 hts gX8_readsSquares_X8_in rfl rfl rfl pd_X8_in ⟨Nat.le_of_ble_eq_true rfl, Nat.le_of_ble_eq_true rfl⟩) rfl rfl rfl hl.1 rfl (Nat.le_of_ble_eq_true rfl) dX8_readsSquares_17 ⟨Nat.zero_le _, Nat.zero_le _⟩ (fun H locs hP hS => ?_)
    refine lv_if_eq (tgt := 46) hx hb dX8_readsSquares_20 (by decide) (fun c8 => ?_) (fun c8 => ?_)
    · have hF := op_pos c8 hF
      refine lv_iconst (v := (0 : Int32)) hx hb dX8_readsSquares_46 (by decide) ?_
      cases hF
      rw [hQ]
      exact xrz hC rfl hP hS dX8_readsSquares_47
    · have hF := op_neg c8 hF
      refine lv_aload_n hx hb dX8_readsSquares_23 rfl (lv_at hl 0 rfl) ?_
      refine va_get (D := D) (ci := 8) (v := .ref a_readLaw) (C := RX8) (T := TX8) (N := 19) hx hb hts iX8 hown hK hP 0 rfl rfl 4 (by decide) k_f16 (fun _ h9 => h9) rfl dX8_readsSquares_24 ?_
      refine lv_iconst (v := (1 : Int32)) hx hb dX8_readsSquares_27 (by decide) ?_
      refine va_iald hx hb hK hP 3 0 rfl rfl (okb_in (by decide)) dX8_readsSquares_28 ?_
      refine lv_aload_n hx hb dX8_readsSquares_29 rfl (lv_at hl 0 rfl) ?_
      refine va_get (D := D) (ci := 8) (v := .ref a_readLaw) (C := RX8) (T := TX8) (N := 19) hx hb hts iX8 hown hK hP 0 rfl rfl 4 (by decide) k_f16 (fun _ h9 => h9) rfl dX8_readsSquares_30 ?_
      refine lv_iconst (v := (2 : Int32)) hx hb dX8_readsSquares_33 (by decide) ?_
      refine va_iald hx hb hK hP 3 0 rfl rfl (okb_in (by decide)) dX8_readsSquares_34 ?_
      refine lv_iadd hx hb dX8_readsSquares_35 ?_
      refine lv_aload_n hx hb dX8_readsSquares_36 rfl (lv_at hl 0 rfl) ?_
      refine va_get (D := D) (ci := 8) (v := .ref a_readLaw) (C := RX8) (T := TX8) (N := 19) hx hb hts iX8 hown hK hP 0 rfl rfl 4 (by decide) k_f16 (fun _ h9 => h9) rfl dX8_readsSquares_37 ?_
      refine lv_iconst (v := (3 : Int32)) hx hb dX8_readsSquares_40 (by decide) ?_
      refine va_iald hx hb hK hP 3 0 rfl rfl (okb_in (by decide)) dX8_readsSquares_41 ?_
      refine lv_iadd hx hb dX8_readsSquares_42 ?_
      refine lv_if_le (tgt := 48) hx hb dX8_readsSquares_43 (by decide) (fun c9 => ?_) (fun c9 => ?_)
      · have hF := op_pos c9 hF
        refine lv_aload_n hx hb dX8_readsSquares_48 rfl (lv_at hl 0 rfl) ?_
        refine va_get (D := D) (ci := 8) (v := .ref a_readLaw) (C := RX8) (T := TX8) (N := 19) hx hb hts iX8 hown hK hP 0 rfl rfl 4 (by decide) k_f16 (fun _ h9 => h9) rfl dX8_readsSquares_49 ?_
        refine lv_iconst (v := (0 : Int32)) hx hb dX8_readsSquares_52 (by decide) ?_
        refine lv_aload_n hx hb dX8_readsSquares_53 rfl (lv_at hl 0 rfl) ?_
        refine va_get (D := D) (ci := 8) (v := .ref a_told) (C := RX8) (T := TX8) (N := 19) hx hb hts iX8 hown hK hP 0 rfl rfl 3 (by decide) k_f13 (fun _ h9 => h9) rfl dX8_readsSquares_54 ?_
        refine lv_iconst (v := (0 : Int32)) hx hb dX8_readsSquares_57 (by decide) ?_
        refine va_iald hx hb hK hP 2 0 rfl rfl (okb_in (by decide)) dX8_readsSquares_58 ?_
        refine va_iast hx hb hK hP hD hS 3 0 rfl rfl (okb_in (by decide)) dX8_readsSquares_59 (fun H locs hP hD hS => ?_)
        have hP : va_P D vwCl [(ax, .inr (8, [.int m_letterMany, .ref a_text, .int m_readAt_2, .ref a_told, .ref a_readLaw, .ref a_readNow, .ref a_law, .ref a_now, .ref a_tried, .int m_undoMany, .int m_undoAt, .ref a_undos, .int m_seenMany, .ref a_seenHour, .ref a_seenAt, .ref a_parts, .ref a_partsThen, .int m_keptMany, .ref a_kept])), (a_text, .inl (cI, 200, .inl m_text)), (a_told, .inl (cI, 3, .inl m_told_3)), (a_readLaw, .inl (cI, 22, .inl (upd m_readLaw (0 : Int32).toNatClampNeg (m_told_3 (0 : Int32).toNatClampNeg))))] H := hP
        have hD : va_D A [(ax, .inr (8, [.int m_letterMany, .ref a_text, .int m_readAt_2, .ref a_told, .ref a_readLaw, .ref a_readNow, .ref a_law, .ref a_now, .ref a_tried, .int m_undoMany, .int m_undoAt, .ref a_undos, .int m_seenMany, .ref a_seenHour, .ref a_seenAt, .ref a_parts, .ref a_partsThen, .int m_keptMany, .ref a_kept])), (a_text, .inl (cI, 200, .inl m_text)), (a_told, .inl (cI, 3, .inl m_told_3)), (a_readLaw, .inl (cI, 22, .inl (upd m_readLaw (0 : Int32).toNatClampNeg (m_told_3 (0 : Int32).toNatClampNeg))))] := hD
        refine lv_iconst (v := (1 : Int32)) hx hb dX8_readsSquares_60 (by decide) ?_
        cases hF
        rw [hQ]
        exact xrz hC rfl hP hS dX8_readsSquares_61
      · have hF := op_neg c9 hF
        refine lv_iconst (v := (0 : Int32)) hx hb dX8_readsSquares_46 (by decide) ?_
        cases hF
        rw [hQ]
        exact xrz hC rfl hP hS dX8_readsSquares_47

def f_X8_readsParasol (m_letterMany : Int32) (m_readAt : Int32) (m_text : (Nat → Int32)) (m_told : (Nat → Int32)) (m_readLaw : (Nat → Int32)) (m_readNow : (Nat → Int32)) : Option (Int32 × Int32 × (Nat → Int32) × (Nat → Int32) × (Nat → Int32)) := (if (m_readLaw (1 : Int32).toNatClampNeg) = (6 : Int32) then (some ((0 : Int32), m_readAt, m_told, m_readLaw, m_readNow)) else (Option.bind (f_X8_readsNumbers m_letterMany m_readAt m_text m_told (3 : Int32)) fun (r2, m_readAt_3, m_told_4) => (if r2 = 0 then (some ((0 : Int32), m_readAt_3, m_told_4, m_readLaw, m_readNow)) else (Option.bind (f_X8_in (m_told_4 (0 : Int32).toNatClampNeg) (0 : Int32) (3 : Int32)) fun r7 => (if r7 = 0 then (some ((0 : Int32), m_readAt_3, m_told_4, m_readLaw, m_readNow)) else (Option.bind (f_X8_in (m_told_4 (1 : Int32).toNatClampNeg) (0 : Int32) (23 : Int32)) fun r10 => (if r10 = 0 then (some ((0 : Int32), m_readAt_3, m_told_4, m_readLaw, m_readNow)) else (Option.bind (f_X8_in (m_told_4 (2 : Int32).toNatClampNeg) (0 : Int32) (12 : Int32)) fun r13 => (if r13 = 0 then (some ((0 : Int32), m_readAt_3, m_told_4, m_readLaw, m_readNow)) else (if okb ((4 : Int32) + (m_readLaw (1 : Int32).toNatClampNeg)) 22 = true then (if okb ((4 : Int32) + (m_readLaw (1 : Int32).toNatClampNeg)) 26 = true then (if okb ((10 : Int32) + (m_readLaw (1 : Int32).toNatClampNeg)) 26 = true then (some ((1 : Int32), m_readAt_3, m_told_4, (upd (upd m_readLaw ((4 : Int32) + (m_readLaw (1 : Int32).toNatClampNeg)).toNatClampNeg (m_told_4 (0 : Int32).toNatClampNeg)) (1 : Int32).toNatClampNeg (((upd m_readLaw ((4 : Int32) + (m_readLaw (1 : Int32).toNatClampNeg)).toNatClampNeg (m_told_4 (0 : Int32).toNatClampNeg)) (1 : Int32).toNatClampNeg) + (1 : Int32))), (upd (upd m_readNow ((4 : Int32) + (m_readLaw (1 : Int32).toNatClampNeg)).toNatClampNeg (m_told_4 (1 : Int32).toNatClampNeg)) ((10 : Int32) + (m_readLaw (1 : Int32).toNatClampNeg)).toNatClampNeg (m_told_4 (2 : Int32).toNatClampNeg)))) else none) else none) else none))))))))))

def rm_X8_readsParasol : Room := { frames := 3, cells := 0, slots := 0, locals := 65 }

theorem pd_X8_readsParasol : yX8_readsParasol.cls ≠ "java/lang/invoke/MethodHandle" ∧ yX8_readsParasol.cls ≠ "java/lang/invoke/VarHandle" ∧ (parseMethodDescriptor yX8_readsParasol.desc).map (fun d => d.parameters.length) = some 0 := by decide +kernel

set_option maxHeartbeats 4000000 in
set_option maxRecDepth 100000 in
theorem c_X8_readsParasol (l : Launch) (D : va_G) (cI cC cM : ClassId) (ax a_text a_told a_readLaw a_readNow a_law a_now a_tried a_undos a_seenHour a_seenAt a_parts a_partsThen a_kept : Nat) (m_letterMany : Int32) (m_readAt : Int32) (m_undoMany : Int32) (m_undoAt : Int32) (m_seenMany : Int32) (m_keptMany : Int32) (m_text : (Nat → Int32)) (m_told : (Nat → Int32)) (m_readLaw : (Nat → Int32)) (m_readNow : (Nat → Int32)) (rr : Int32) (m_readAt' : Int32) (m_told' : (Nat → Int32)) (m_readLaw' : (Nat → Int32)) (m_readNow' : (Nat → Int32)) (hF : f_X8_readsParasol m_letterMany m_readAt m_text m_told m_readLaw m_readNow = some (rr, m_readAt', m_told', m_readLaw', m_readNow')) : CI l D cI cC cM yX8_readsParasol wsX8_readsParasol rm_X8_readsParasol [.ref ax] [(ax, .inr (8, [.int m_letterMany, .ref a_text, .int m_readAt, .ref a_told, .ref a_readLaw, .ref a_readNow, .ref a_law, .ref a_now, .ref a_tried, .int m_undoMany, .int m_undoAt, .ref a_undos, .int m_seenMany, .ref a_seenHour, .ref a_seenAt, .ref a_parts, .ref a_partsThen, .int m_keptMany, .ref a_kept])), (a_text, .inl (cI, 200, .inl m_text)), (a_told, .inl (cI, 3, .inl m_told)), (a_readLaw, .inl (cI, 22, .inl m_readLaw)), (a_readNow, .inl (cI, 26, .inl m_readNow))] [(ax, .inr (8, [.int m_letterMany, .ref a_text, .int m_readAt', .ref a_told, .ref a_readLaw, .ref a_readNow, .ref a_law, .ref a_now, .ref a_tried, .int m_undoMany, .int m_undoAt, .ref a_undos, .int m_seenMany, .ref a_seenHour, .ref a_seenAt, .ref a_parts, .ref a_partsThen, .int m_keptMany, .ref a_kept])), (a_text, .inl (cI, 200, .inl m_text)), (a_told, .inl (cI, 3, .inl m_told')), (a_readLaw, .inl (cI, 22, .inl m_readLaw')), (a_readNow, .inl (cI, 26, .inl m_readNow'))] rr := by
  refine CI.of (cc := cX8_readsParasol) (nL := 2) (ret := (some .boolean)) (by decide) rfl (Nat.le_of_ble_eq_true rfl) ?_
  intro p e s m args below meth c A hC hP hD hS ls hl
  obtain ⟨hx, hb, hml, hown, hts, hr, hlk, hG, hA⟩ := id hC
  have hown : s.vm.findClass RX8 = some m.cls := hown
  have hK := hG.1
  have hl : lv_has ls 2 [(0, .ref ax)] := hl
  have k_f16 := hts (.fieldLink RX8 16 "ParasolHoursModel" "readLaw" "[I") (List.mem_of_getElem? (i := 1) rfl)
  have k_f13 := hts (.fieldLink RX8 13 "ParasolHoursModel" "told" "[I") (List.mem_of_getElem? (i := 2) rfl)
  have k_f19 := hts (.fieldLink RX8 19 "ParasolHoursModel" "readNow" "[I") (List.mem_of_getElem? (i := 3) rfl)
  have iX8 : ∀ w ∈ wsX80, w ∈ wsX8_readsParasol := by decide +kernel
  obtain ⟨Q, hQ⟩ : ∃ Q, Q = MQ below (QI D [(ax, .inr (8, [.int m_letterMany, .ref a_text, .int m_readAt', .ref a_told, .ref a_readLaw, .ref a_readNow, .ref a_law, .ref a_now, .ref a_tried, .int m_undoMany, .int m_undoAt, .ref a_undos, .int m_seenMany, .ref a_seenHour, .ref a_seenAt, .ref a_parts, .ref a_partsThen, .int m_keptMany, .ref a_kept])), (a_text, .inl (cI, 200, .inl m_text)), (a_told, .inl (cI, 3, .inl m_told')), (a_readLaw, .inl (cI, 22, .inl m_readLaw')), (a_readNow, .inl (cI, 26, .inl m_readNow'))] rr A) args s 0 0 A := ⟨_, rfl⟩
  rw [← hQ]
  unfold f_X8_readsParasol at hF
  refine lv_aload_n hx hb dX8_readsParasol_0 rfl (lv_at hl 0 rfl) ?_
  refine va_get (D := D) (ci := 8) (v := .ref a_readLaw) (C := RX8) (T := TX8) (N := 19) hx hb hts iX8 hown hK hP 0 rfl rfl 4 (by decide) k_f16 (fun _ h9 => h9) rfl dX8_readsParasol_1 ?_
  refine lv_iconst (v := (1 : Int32)) hx hb dX8_readsParasol_4 (by decide) ?_
  refine va_iald hx hb hK hP 3 0 rfl rfl (okb_in (by decide)) dX8_readsParasol_5 ?_
  refine lv_istore_n (lv' := [(1, .int (m_readLaw (1 : Int32).toNatClampNeg)), (0, .ref ax)]) hx hb dX8_readsParasol_6 rfl hl (by decide) rfl (fun ls hl => ?_)
  refine lv_iload_n hx hb dX8_readsParasol_7 rfl (lv_at hl 0 rfl) ?_
  refine lv_bipush (v := (6 : Int32)) hx hb dX8_readsParasol_8 (by decide) ?_
  refine lv_icmp_eq (tgt := 65) hx hb dX8_readsParasol_10 (by decide) (fun c1 => ?_) (fun c1 => ?_)
  · have hF := op_pos c1 hF
    refine lv_iconst (v := (0 : Int32)) hx hb dX8_readsParasol_65 (by decide) ?_
    cases hF
    rw [hQ]
    exact xrz hC rfl hP hS dX8_readsParasol_66
  · have hF := op_neg c1 hF
    refine lv_aload_n hx hb dX8_readsParasol_13 rfl (lv_at hl 1 rfl) ?_
    refine lv_iconst (v := (3 : Int32)) hx hb dX8_readsParasol_14 (by decide) ?_
    obtain ⟨⟨r2, m_readAt_3, m_told_4⟩, hb5, hF⟩ := op_bind hF
    refine xVi (As := [.int (3 : Int32)]) (rest := []) hC hP hD hS [0, 1, 2] (c_X8_readsNumbers l D cI cC cM ax a_text a_told a_readLaw a_readNow a_law a_now a_tried a_undos a_seenHour a_seenAt a_parts a_partsThen a_kept m_letterMany m_readAt m_undoMany m_undoAt m_seenMany m_keptMany m_text m_told (3 : Int32) r2 m_readAt_3 m_told_4 hb5) (cwV 1 hts gX8_readsParasol_X8_readsNumbers rfl rfl rfl ⟨rfl, pd_X8_readsNumbers⟩ ⟨Nat.le_of_ble_eq_true rfl, Nat.le_of_ble_eq_true rfl⟩) rfl rfl rfl 0 8 rfl rfl rfl rfl hl.1 rfl (Nat.le_of_ble_eq_true rfl) dX8_readsParasol_15 ⟨Nat.zero_le _, Nat.zero_le _⟩ (fun H locs hP hD hS => ?_)
    have hP : va_P D vwCl [(ax, .inr (8, [.int m_letterMany, .ref a_text, .int m_readAt_3, .ref a_told, .ref a_readLaw, .ref a_readNow, .ref a_law, .ref a_now, .ref a_tried, .int m_undoMany, .int m_undoAt, .ref a_undos, .int m_seenMany, .ref a_seenHour, .ref a_seenAt, .ref a_parts, .ref a_partsThen, .int m_keptMany, .ref a_kept])), (a_text, .inl (cI, 200, .inl m_text)), (a_told, .inl (cI, 3, .inl m_told_4)), (a_readLaw, .inl (cI, 22, .inl m_readLaw)), (a_readNow, .inl (cI, 26, .inl m_readNow))] H := hP
    have hD : va_D A [(ax, .inr (8, [.int m_letterMany, .ref a_text, .int m_readAt_3, .ref a_told, .ref a_readLaw, .ref a_readNow, .ref a_law, .ref a_now, .ref a_tried, .int m_undoMany, .int m_undoAt, .ref a_undos, .int m_seenMany, .ref a_seenHour, .ref a_seenAt, .ref a_parts, .ref a_partsThen, .int m_keptMany, .ref a_kept])), (a_text, .inl (cI, 200, .inl m_text)), (a_told, .inl (cI, 3, .inl m_told_4)), (a_readLaw, .inl (cI, 22, .inl m_readLaw)), (a_readNow, .inl (cI, 26, .inl m_readNow))] := hD
    refine lv_if_eq (tgt := 65) hx hb dX8_readsParasol_18 (by decide) (fun c6 => ?_) (fun c6 => ?_)
    · have hF := op_pos c6 hF
      refine lv_iconst (v := (0 : Int32)) hx hb dX8_readsParasol_65 (by decide) ?_
      cases hF
      rw [hQ]
      exact xrz hC rfl hP hS dX8_readsParasol_66
    · have hF := op_neg c6 hF
      refine lv_aload_n hx hb dX8_readsParasol_21 rfl (lv_at hl 1 rfl) ?_
      refine va_get (D := D) (ci := 8) (v := .ref a_told) (C := RX8) (T := TX8) (N := 19) hx hb hts iX8 hown hK hP 0 rfl rfl 3 (by decide) k_f13 (fun _ h9 => h9) rfl dX8_readsParasol_22 ?_
      refine lv_iconst (v := (0 : Int32)) hx hb dX8_readsParasol_25 (by decide) ?_
      refine va_iald hx hb hK hP 2 0 rfl rfl (okb_in (by decide)) dX8_readsParasol_26 ?_
      refine lv_iconst (v := (0 : Int32)) hx hb dX8_readsParasol_27 (by decide) ?_
      refine lv_iconst (v := (3 : Int32)) hx hb dX8_readsParasol_28 (by decide) ?_
      obtain ⟨r7, hb8, hF⟩ := op_bind hF
      refine xSr (As := [.int (m_told_4 (0 : Int32).toNatClampNeg), .int (0 : Int32), .int (3 : Int32)]) (rest := []) hC hP hD hS [] (c_X8_in l D cI cC cM (m_told_4 (0 : Int32).toNatClampNeg) (0 : Int32) (3 : Int32) r7 hb8) (va_cwS 3 hts gX8_readsParasol_X8_in rfl rfl rfl pd_X8_in ⟨Nat.le_of_ble_eq_true rfl, Nat.le_of_ble_eq_true rfl⟩) rfl rfl rfl hl.1 rfl (Nat.le_of_ble_eq_true rfl) dX8_readsParasol_29 ⟨Nat.zero_le _, Nat.zero_le _⟩ (fun H locs hP hS => ?_)
      refine lv_if_eq (tgt := 65) hx hb dX8_readsParasol_32 (by decide) (fun c9 => ?_) (fun c9 => ?_)
      · have hF := op_pos c9 hF
        refine lv_iconst (v := (0 : Int32)) hx hb dX8_readsParasol_65 (by decide) ?_
        cases hF
        rw [hQ]
        exact xrz hC rfl hP hS dX8_readsParasol_66
      · have hF := op_neg c9 hF
        refine lv_aload_n hx hb dX8_readsParasol_35 rfl (lv_at hl 1 rfl) ?_
        refine va_get (D := D) (ci := 8) (v := .ref a_told) (C := RX8) (T := TX8) (N := 19) hx hb hts iX8 hown hK hP 0 rfl rfl 3 (by decide) k_f13 (fun _ h9 => h9) rfl dX8_readsParasol_36 ?_
        refine lv_iconst (v := (1 : Int32)) hx hb dX8_readsParasol_39 (by decide) ?_
        refine va_iald hx hb hK hP 2 0 rfl rfl (okb_in (by decide)) dX8_readsParasol_40 ?_
        refine lv_iconst (v := (0 : Int32)) hx hb dX8_readsParasol_41 (by decide) ?_
        refine lv_bipush (v := (23 : Int32)) hx hb dX8_readsParasol_42 (by decide) ?_
        obtain ⟨r10, hb11, hF⟩ := op_bind hF
        refine xSr (As := [.int (m_told_4 (1 : Int32).toNatClampNeg), .int (0 : Int32), .int (23 : Int32)]) (rest := []) hC hP hD hS [] (c_X8_in l D cI cC cM (m_told_4 (1 : Int32).toNatClampNeg) (0 : Int32) (23 : Int32) r10 hb11) (va_cwS 3 hts gX8_readsParasol_X8_in rfl rfl rfl pd_X8_in ⟨Nat.le_of_ble_eq_true rfl, Nat.le_of_ble_eq_true rfl⟩) rfl rfl rfl hl.1 rfl (Nat.le_of_ble_eq_true rfl) dX8_readsParasol_44 ⟨Nat.zero_le _, Nat.zero_le _⟩ (fun H locs hP hS => ?_)
        refine lv_if_eq (tgt := 65) hx hb dX8_readsParasol_47 (by decide) (fun c12 => ?_) (fun c12 => ?_)
        · have hF := op_pos c12 hF
          refine lv_iconst (v := (0 : Int32)) hx hb dX8_readsParasol_65 (by decide) ?_
          cases hF
          rw [hQ]
          exact xrz hC rfl hP hS dX8_readsParasol_66
        · have hF := op_neg c12 hF
          refine lv_aload_n hx hb dX8_readsParasol_50 rfl (lv_at hl 1 rfl) ?_
          refine va_get (D := D) (ci := 8) (v := .ref a_told) (C := RX8) (T := TX8) (N := 19) hx hb hts iX8 hown hK hP 0 rfl rfl 3 (by decide) k_f13 (fun _ h9 => h9) rfl dX8_readsParasol_51 ?_
          refine lv_iconst (v := (2 : Int32)) hx hb dX8_readsParasol_54 (by decide) ?_
          refine va_iald hx hb hK hP 2 0 rfl rfl (okb_in (by decide)) dX8_readsParasol_55 ?_
          refine lv_iconst (v := (0 : Int32)) hx hb dX8_readsParasol_56 (by decide) ?_
          refine lv_bipush (v := (12 : Int32)) hx hb dX8_readsParasol_57 (by decide) ?_
          obtain ⟨r13, hb14, hF⟩ := op_bind hF
          refine xSr (As := [.int (m_told_4 (2 : Int32).toNatClampNeg), .int (0 : Int32), .int (12 : Int32)]) (rest := []) hC hP hD hS [] (c_X8_in l D cI cC cM (m_told_4 (2 : Int32).toNatClampNeg) (0 : Int32) (12 : Int32) r13 hb14) (va_cwS 3 hts gX8_readsParasol_X8_in rfl rfl rfl pd_X8_in ⟨Nat.le_of_ble_eq_true rfl, Nat.le_of_ble_eq_true rfl⟩) rfl rfl rfl hl.1 rfl (Nat.le_of_ble_eq_true rfl) dX8_readsParasol_59 ⟨Nat.zero_le _, Nat.zero_le _⟩ (fun H locs hP hS => ?_)
          refine lv_if_ne (tgt := 67) hx hb dX8_readsParasol_62 (by decide) (fun c15 => ?_) (fun c15 => ?_)
          · have hF := op_neg c15 hF
            refine lv_aload_n hx hb dX8_readsParasol_67 rfl (lv_at hl 1 rfl) ?_
            refine va_get (D := D) (ci := 8) (v := .ref a_readLaw) (C := RX8) (T := TX8) (N := 19) hx hb hts iX8 hown hK hP 0 rfl rfl 4 (by decide) k_f16 (fun _ h9 => h9) rfl dX8_readsParasol_68 ?_
            refine lv_iconst (v := (4 : Int32)) hx hb dX8_readsParasol_71 (by decide) ?_
            refine lv_iload_n hx hb dX8_readsParasol_72 rfl (lv_at hl 0 rfl) ?_
            refine lv_iadd hx hb dX8_readsParasol_73 ?_
            refine lv_aload_n hx hb dX8_readsParasol_74 rfl (lv_at hl 1 rfl) ?_
            refine va_get (D := D) (ci := 8) (v := .ref a_told) (C := RX8) (T := TX8) (N := 19) hx hb hts iX8 hown hK hP 0 rfl rfl 3 (by decide) k_f13 (fun _ h9 => h9) rfl dX8_readsParasol_75 ?_
            refine lv_iconst (v := (0 : Int32)) hx hb dX8_readsParasol_78 (by decide) ?_
            refine va_iald hx hb hK hP 2 0 rfl rfl (okb_in (by decide)) dX8_readsParasol_79 ?_
            obtain ⟨o16, hF⟩ := op_ob hF
            refine va_iast hx hb hK hP hD hS 3 0 rfl rfl (okb_in o16) dX8_readsParasol_80 (fun H locs hP hD hS => ?_)
            have hP : va_P D vwCl [(ax, .inr (8, [.int m_letterMany, .ref a_text, .int m_readAt_3, .ref a_told, .ref a_readLaw, .ref a_readNow, .ref a_law, .ref a_now, .ref a_tried, .int m_undoMany, .int m_undoAt, .ref a_undos, .int m_seenMany, .ref a_seenHour, .ref a_seenAt, .ref a_parts, .ref a_partsThen, .int m_keptMany, .ref a_kept])), (a_text, .inl (cI, 200, .inl m_text)), (a_told, .inl (cI, 3, .inl m_told_4)), (a_readLaw, .inl (cI, 22, .inl (upd m_readLaw ((4 : Int32) + (m_readLaw (1 : Int32).toNatClampNeg)).toNatClampNeg (m_told_4 (0 : Int32).toNatClampNeg)))), (a_readNow, .inl (cI, 26, .inl m_readNow))] H := hP
            have hD : va_D A [(ax, .inr (8, [.int m_letterMany, .ref a_text, .int m_readAt_3, .ref a_told, .ref a_readLaw, .ref a_readNow, .ref a_law, .ref a_now, .ref a_tried, .int m_undoMany, .int m_undoAt, .ref a_undos, .int m_seenMany, .ref a_seenHour, .ref a_seenAt, .ref a_parts, .ref a_partsThen, .int m_keptMany, .ref a_kept])), (a_text, .inl (cI, 200, .inl m_text)), (a_told, .inl (cI, 3, .inl m_told_4)), (a_readLaw, .inl (cI, 22, .inl (upd m_readLaw ((4 : Int32) + (m_readLaw (1 : Int32).toNatClampNeg)).toNatClampNeg (m_told_4 (0 : Int32).toNatClampNeg)))), (a_readNow, .inl (cI, 26, .inl m_readNow))] := hD
            refine lv_aload_n hx hb dX8_readsParasol_81 rfl (lv_at hl 1 rfl) ?_
            refine va_get (D := D) (ci := 8) (v := .ref a_readNow) (C := RX8) (T := TX8) (N := 19) hx hb hts iX8 hown hK hP 0 rfl rfl 5 (by decide) k_f19 (fun _ h9 => h9) rfl dX8_readsParasol_82 ?_
            refine lv_iconst (v := (4 : Int32)) hx hb dX8_readsParasol_85 (by decide) ?_
            refine lv_iload_n hx hb dX8_readsParasol_86 rfl (lv_at hl 0 rfl) ?_
            refine lv_iadd hx hb dX8_readsParasol_87 ?_
            refine lv_aload_n hx hb dX8_readsParasol_88 rfl (lv_at hl 1 rfl) ?_
            refine va_get (D := D) (ci := 8) (v := .ref a_told) (C := RX8) (T := TX8) (N := 19) hx hb hts iX8 hown hK hP 0 rfl rfl 3 (by decide) k_f13 (fun _ h9 => h9) rfl dX8_readsParasol_89 ?_
            refine lv_iconst (v := (1 : Int32)) hx hb dX8_readsParasol_92 (by decide) ?_
            refine va_iald hx hb hK hP 2 0 rfl rfl (okb_in (by decide)) dX8_readsParasol_93 ?_
            obtain ⟨o17, hF⟩ := op_ob hF
            refine va_iast hx hb hK hP hD hS 4 0 rfl rfl (okb_in o17) dX8_readsParasol_94 (fun H locs hP hD hS => ?_)
            have hP : va_P D vwCl [(ax, .inr (8, [.int m_letterMany, .ref a_text, .int m_readAt_3, .ref a_told, .ref a_readLaw, .ref a_readNow, .ref a_law, .ref a_now, .ref a_tried, .int m_undoMany, .int m_undoAt, .ref a_undos, .int m_seenMany, .ref a_seenHour, .ref a_seenAt, .ref a_parts, .ref a_partsThen, .int m_keptMany, .ref a_kept])), (a_text, .inl (cI, 200, .inl m_text)), (a_told, .inl (cI, 3, .inl m_told_4)), (a_readLaw, .inl (cI, 22, .inl (upd m_readLaw ((4 : Int32) + (m_readLaw (1 : Int32).toNatClampNeg)).toNatClampNeg (m_told_4 (0 : Int32).toNatClampNeg)))), (a_readNow, .inl (cI, 26, .inl (upd m_readNow ((4 : Int32) + (m_readLaw (1 : Int32).toNatClampNeg)).toNatClampNeg (m_told_4 (1 : Int32).toNatClampNeg))))] H := hP
            have hD : va_D A [(ax, .inr (8, [.int m_letterMany, .ref a_text, .int m_readAt_3, .ref a_told, .ref a_readLaw, .ref a_readNow, .ref a_law, .ref a_now, .ref a_tried, .int m_undoMany, .int m_undoAt, .ref a_undos, .int m_seenMany, .ref a_seenHour, .ref a_seenAt, .ref a_parts, .ref a_partsThen, .int m_keptMany, .ref a_kept])), (a_text, .inl (cI, 200, .inl m_text)), (a_told, .inl (cI, 3, .inl m_told_4)), (a_readLaw, .inl (cI, 22, .inl (upd m_readLaw ((4 : Int32) + (m_readLaw (1 : Int32).toNatClampNeg)).toNatClampNeg (m_told_4 (0 : Int32).toNatClampNeg)))), (a_readNow, .inl (cI, 26, .inl (upd m_readNow ((4 : Int32) + (m_readLaw (1 : Int32).toNatClampNeg)).toNatClampNeg (m_told_4 (1 : Int32).toNatClampNeg))))] := hD
            refine lv_aload_n hx hb dX8_readsParasol_95 rfl (lv_at hl 1 rfl) ?_
            refine va_get (D := D) (ci := 8) (v := .ref a_readNow) (C := RX8) (T := TX8) (N := 19) hx hb hts iX8 hown hK hP 0 rfl rfl 5 (by decide) k_f19 (fun _ h9 => h9) rfl dX8_readsParasol_96 ?_
            refine lv_bipush (v := (10 : Int32)) hx hb dX8_readsParasol_99 (by decide) ?_
            refine lv_iload_n hx hb dX8_readsParasol_101 rfl (lv_at hl 0 rfl) ?_
            refine lv_iadd hx hb dX8_readsParasol_102 ?_
            refine lv_aload_n hx hb dX8_readsParasol_103 rfl (lv_at hl 1 rfl) ?_
            refine va_get (D := D) (ci := 8) (v := .ref a_told) (C := RX8) (T := TX8) (N := 19) hx hb hts iX8 hown hK hP 0 rfl rfl 3 (by decide) k_f13 (fun _ h9 => h9) rfl dX8_readsParasol_104 ?_
            refine lv_iconst (v := (2 : Int32)) hx hb dX8_readsParasol_107 (by decide) ?_
            refine va_iald hx hb hK hP 2 0 rfl rfl (okb_in (by decide)) dX8_readsParasol_108 ?_
            obtain ⟨o18, hF⟩ := op_ob hF
            refine va_iast hx hb hK hP hD hS 4 0 rfl rfl (okb_in o18) dX8_readsParasol_109 (fun H locs hP hD hS => ?_)
            have hP : va_P D vwCl [(ax, .inr (8, [.int m_letterMany, .ref a_text, .int m_readAt_3, .ref a_told, .ref a_readLaw, .ref a_readNow, .ref a_law, .ref a_now, .ref a_tried, .int m_undoMany, .int m_undoAt, .ref a_undos, .int m_seenMany, .ref a_seenHour, .ref a_seenAt, .ref a_parts, .ref a_partsThen, .int m_keptMany, .ref a_kept])), (a_text, .inl (cI, 200, .inl m_text)), (a_told, .inl (cI, 3, .inl m_told_4)), (a_readLaw, .inl (cI, 22, .inl (upd m_readLaw ((4 : Int32) + (m_readLaw (1 : Int32).toNatClampNeg)).toNatClampNeg (m_told_4 (0 : Int32).toNatClampNeg)))), (a_readNow, .inl (cI, 26, .inl (upd (upd m_readNow ((4 : Int32) + (m_readLaw (1 : Int32).toNatClampNeg)).toNatClampNeg (m_told_4 (1 : Int32).toNatClampNeg)) ((10 : Int32) + (m_readLaw (1 : Int32).toNatClampNeg)).toNatClampNeg (m_told_4 (2 : Int32).toNatClampNeg))))] H := hP
            have hD : va_D A [(ax, .inr (8, [.int m_letterMany, .ref a_text, .int m_readAt_3, .ref a_told, .ref a_readLaw, .ref a_readNow, .ref a_law, .ref a_now, .ref a_tried, .int m_undoMany, .int m_undoAt, .ref a_undos, .int m_seenMany, .ref a_seenHour, .ref a_seenAt, .ref a_parts, .ref a_partsThen, .int m_keptMany, .ref a_kept])), (a_text, .inl (cI, 200, .inl m_text)), (a_told, .inl (cI, 3, .inl m_told_4)), (a_readLaw, .inl (cI, 22, .inl (upd m_readLaw ((4 : Int32) + (m_readLaw (1 : Int32).toNatClampNeg)).toNatClampNeg (m_told_4 (0 : Int32).toNatClampNeg)))), (a_readNow, .inl (cI, 26, .inl (upd (upd m_readNow ((4 : Int32) + (m_readLaw (1 : Int32).toNatClampNeg)).toNatClampNeg (m_told_4 (1 : Int32).toNatClampNeg)) ((10 : Int32) + (m_readLaw (1 : Int32).toNatClampNeg)).toNatClampNeg (m_told_4 (2 : Int32).toNatClampNeg))))] := hD
            refine lv_aload_n hx hb dX8_readsParasol_110 rfl (lv_at hl 1 rfl) ?_
            refine va_get (D := D) (ci := 8) (v := .ref a_readLaw) (C := RX8) (T := TX8) (N := 19) hx hb hts iX8 hown hK hP 0 rfl rfl 4 (by decide) k_f16 (fun _ h9 => h9) rfl dX8_readsParasol_111 ?_
            refine lv_iconst (v := (1 : Int32)) hx hb dX8_readsParasol_114 (by decide) ?_
            refine lv_dup2_11 hx hb dX8_readsParasol_115 rfl rfl ?_
            refine va_iald hx hb hK hP 3 0 rfl rfl (okb_in (by decide)) dX8_readsParasol_116 ?_
            refine lv_iconst (v := (1 : Int32)) hx hb dX8_readsParasol_117 (by decide) ?_
            refine lv_iadd hx hb dX8_readsParasol_118 ?_
            refine va_iast hx hb hK hP hD hS 3 0 rfl rfl (okb_in (by decide)) dX8_readsParasol_119 (fun H locs hP hD hS => ?_)
            have hP : va_P D vwCl [(ax, .inr (8, [.int m_letterMany, .ref a_text, .int m_readAt_3, .ref a_told, .ref a_readLaw, .ref a_readNow, .ref a_law, .ref a_now, .ref a_tried, .int m_undoMany, .int m_undoAt, .ref a_undos, .int m_seenMany, .ref a_seenHour, .ref a_seenAt, .ref a_parts, .ref a_partsThen, .int m_keptMany, .ref a_kept])), (a_text, .inl (cI, 200, .inl m_text)), (a_told, .inl (cI, 3, .inl m_told_4)), (a_readLaw, .inl (cI, 22, .inl (upd (upd m_readLaw ((4 : Int32) + (m_readLaw (1 : Int32).toNatClampNeg)).toNatClampNeg (m_told_4 (0 : Int32).toNatClampNeg)) (1 : Int32).toNatClampNeg (((upd m_readLaw ((4 : Int32) + (m_readLaw (1 : Int32).toNatClampNeg)).toNatClampNeg (m_told_4 (0 : Int32).toNatClampNeg)) (1 : Int32).toNatClampNeg) + (1 : Int32))))), (a_readNow, .inl (cI, 26, .inl (upd (upd m_readNow ((4 : Int32) + (m_readLaw (1 : Int32).toNatClampNeg)).toNatClampNeg (m_told_4 (1 : Int32).toNatClampNeg)) ((10 : Int32) + (m_readLaw (1 : Int32).toNatClampNeg)).toNatClampNeg (m_told_4 (2 : Int32).toNatClampNeg))))] H := hP
            have hD : va_D A [(ax, .inr (8, [.int m_letterMany, .ref a_text, .int m_readAt_3, .ref a_told, .ref a_readLaw, .ref a_readNow, .ref a_law, .ref a_now, .ref a_tried, .int m_undoMany, .int m_undoAt, .ref a_undos, .int m_seenMany, .ref a_seenHour, .ref a_seenAt, .ref a_parts, .ref a_partsThen, .int m_keptMany, .ref a_kept])), (a_text, .inl (cI, 200, .inl m_text)), (a_told, .inl (cI, 3, .inl m_told_4)), (a_readLaw, .inl (cI, 22, .inl (upd (upd m_readLaw ((4 : Int32) + (m_readLaw (1 : Int32).toNatClampNeg)).toNatClampNeg (m_told_4 (0 : Int32).toNatClampNeg)) (1 : Int32).toNatClampNeg (((upd m_readLaw ((4 : Int32) + (m_readLaw (1 : Int32).toNatClampNeg)).toNatClampNeg (m_told_4 (0 : Int32).toNatClampNeg)) (1 : Int32).toNatClampNeg) + (1 : Int32))))), (a_readNow, .inl (cI, 26, .inl (upd (upd m_readNow ((4 : Int32) + (m_readLaw (1 : Int32).toNatClampNeg)).toNatClampNeg (m_told_4 (1 : Int32).toNatClampNeg)) ((10 : Int32) + (m_readLaw (1 : Int32).toNatClampNeg)).toNatClampNeg (m_told_4 (2 : Int32).toNatClampNeg))))] := hD
            refine lv_iconst (v := (1 : Int32)) hx hb dX8_readsParasol_120 (by decide) ?_
            cases hF
            rw [hQ]
            exact xrz hC rfl hP hS dX8_readsParasol_121
          · have hF := op_pos c15 hF
            refine lv_iconst (v := (0 : Int32)) hx hb dX8_readsParasol_65 (by decide) ?_
            cases hF
            rw [hQ]
            exact xrz hC rfl hP hS dX8_readsParasol_66

def f_X8_readsPerson (m_letterMany : Int32) (m_readAt : Int32) (m_text : (Nat → Int32)) (m_told : (Nat → Int32)) (m_readLaw : (Nat → Int32)) (m_readNow : (Nat → Int32)) : Option (Int32 × Int32 × (Nat → Int32) × (Nat → Int32) × (Nat → Int32)) := (if (m_readLaw (2 : Int32).toNatClampNeg) = (5 : Int32) then (some ((0 : Int32), m_readAt, m_told, m_readLaw, m_readNow)) else (Option.bind (f_X8_readsNumbers m_letterMany m_readAt m_text m_told (1 : Int32)) fun (r2, m_readAt_3, m_told_4) => (if r2 = 0 then (some ((0 : Int32), m_readAt_3, m_told_4, m_readLaw, m_readNow)) else (Option.bind (f_X8_in (m_told_4 (0 : Int32).toNatClampNeg) (0 : Int32) ((m_readLaw (0 : Int32).toNatClampNeg) - (1 : Int32))) fun r7 => (if r7 = 0 then (some ((0 : Int32), m_readAt_3, m_told_4, m_readLaw, m_readNow)) else (if okb ((16 : Int32) + (m_readLaw (2 : Int32).toNatClampNeg)) 26 = true then (some ((1 : Int32), m_readAt_3, m_told_4, (upd m_readLaw (2 : Int32).toNatClampNeg ((m_readLaw (2 : Int32).toNatClampNeg) + (1 : Int32))), (upd m_readNow ((16 : Int32) + (m_readLaw (2 : Int32).toNatClampNeg)).toNatClampNeg (m_told_4 (0 : Int32).toNatClampNeg)))) else none))))))

def rm_X8_readsPerson : Room := { frames := 3, cells := 0, slots := 0, locals := 65 }

theorem pd_X8_readsPerson : yX8_readsPerson.cls ≠ "java/lang/invoke/MethodHandle" ∧ yX8_readsPerson.cls ≠ "java/lang/invoke/VarHandle" ∧ (parseMethodDescriptor yX8_readsPerson.desc).map (fun d => d.parameters.length) = some 0 := by decide +kernel

set_option maxHeartbeats 4000000 in
set_option maxRecDepth 100000 in
theorem c_X8_readsPerson (l : Launch) (D : va_G) (cI cC cM : ClassId) (ax a_text a_told a_readLaw a_readNow a_law a_now a_tried a_undos a_seenHour a_seenAt a_parts a_partsThen a_kept : Nat) (m_letterMany : Int32) (m_readAt : Int32) (m_undoMany : Int32) (m_undoAt : Int32) (m_seenMany : Int32) (m_keptMany : Int32) (m_text : (Nat → Int32)) (m_told : (Nat → Int32)) (m_readLaw : (Nat → Int32)) (m_readNow : (Nat → Int32)) (rr : Int32) (m_readAt' : Int32) (m_told' : (Nat → Int32)) (m_readLaw' : (Nat → Int32)) (m_readNow' : (Nat → Int32)) (hF : f_X8_readsPerson m_letterMany m_readAt m_text m_told m_readLaw m_readNow = some (rr, m_readAt', m_told', m_readLaw', m_readNow')) : CI l D cI cC cM yX8_readsPerson wsX8_readsPerson rm_X8_readsPerson [.ref ax] [(ax, .inr (8, [.int m_letterMany, .ref a_text, .int m_readAt, .ref a_told, .ref a_readLaw, .ref a_readNow, .ref a_law, .ref a_now, .ref a_tried, .int m_undoMany, .int m_undoAt, .ref a_undos, .int m_seenMany, .ref a_seenHour, .ref a_seenAt, .ref a_parts, .ref a_partsThen, .int m_keptMany, .ref a_kept])), (a_text, .inl (cI, 200, .inl m_text)), (a_told, .inl (cI, 3, .inl m_told)), (a_readLaw, .inl (cI, 22, .inl m_readLaw)), (a_readNow, .inl (cI, 26, .inl m_readNow))] [(ax, .inr (8, [.int m_letterMany, .ref a_text, .int m_readAt', .ref a_told, .ref a_readLaw, .ref a_readNow, .ref a_law, .ref a_now, .ref a_tried, .int m_undoMany, .int m_undoAt, .ref a_undos, .int m_seenMany, .ref a_seenHour, .ref a_seenAt, .ref a_parts, .ref a_partsThen, .int m_keptMany, .ref a_kept])), (a_text, .inl (cI, 200, .inl m_text)), (a_told, .inl (cI, 3, .inl m_told')), (a_readLaw, .inl (cI, 22, .inl m_readLaw')), (a_readNow, .inl (cI, 26, .inl m_readNow'))] rr := by
  refine CI.of (cc := cX8_readsPerson) (nL := 2) (ret := (some .boolean)) (by decide) rfl (Nat.le_of_ble_eq_true rfl) ?_
  intro p e s m args below meth c A hC hP hD hS ls hl
  obtain ⟨hx, hb, hml, hown, hts, hr, hlk, hG, hA⟩ := id hC
  have hown : s.vm.findClass RX8 = some m.cls := hown
  have hK := hG.1
  have hl : lv_has ls 2 [(0, .ref ax)] := hl
  have k_f16 := hts (.fieldLink RX8 16 "ParasolHoursModel" "readLaw" "[I") (List.mem_of_getElem? (i := 1) rfl)
  have k_f13 := hts (.fieldLink RX8 13 "ParasolHoursModel" "told" "[I") (List.mem_of_getElem? (i := 2) rfl)
  have k_f19 := hts (.fieldLink RX8 19 "ParasolHoursModel" "readNow" "[I") (List.mem_of_getElem? (i := 3) rfl)
  have iX8 : ∀ w ∈ wsX80, w ∈ wsX8_readsPerson := by decide +kernel
  obtain ⟨Q, hQ⟩ : ∃ Q, Q = MQ below (QI D [(ax, .inr (8, [.int m_letterMany, .ref a_text, .int m_readAt', .ref a_told, .ref a_readLaw, .ref a_readNow, .ref a_law, .ref a_now, .ref a_tried, .int m_undoMany, .int m_undoAt, .ref a_undos, .int m_seenMany, .ref a_seenHour, .ref a_seenAt, .ref a_parts, .ref a_partsThen, .int m_keptMany, .ref a_kept])), (a_text, .inl (cI, 200, .inl m_text)), (a_told, .inl (cI, 3, .inl m_told')), (a_readLaw, .inl (cI, 22, .inl m_readLaw')), (a_readNow, .inl (cI, 26, .inl m_readNow'))] rr A) args s 0 0 A := ⟨_, rfl⟩
  rw [← hQ]
  unfold f_X8_readsPerson at hF
  refine lv_aload_n hx hb dX8_readsPerson_0 rfl (lv_at hl 0 rfl) ?_
  refine va_get (D := D) (ci := 8) (v := .ref a_readLaw) (C := RX8) (T := TX8) (N := 19) hx hb hts iX8 hown hK hP 0 rfl rfl 4 (by decide) k_f16 (fun _ h9 => h9) rfl dX8_readsPerson_1 ?_
  refine lv_iconst (v := (2 : Int32)) hx hb dX8_readsPerson_4 (by decide) ?_
  refine va_iald hx hb hK hP 3 0 rfl rfl (okb_in (by decide)) dX8_readsPerson_5 ?_
  refine lv_istore_n (lv' := [(1, .int (m_readLaw (2 : Int32).toNatClampNeg)), (0, .ref ax)]) hx hb dX8_readsPerson_6 rfl hl (by decide) rfl (fun ls hl => ?_)
  refine lv_iload_n hx hb dX8_readsPerson_7 rfl (lv_at hl 0 rfl) ?_
  refine lv_iconst (v := (5 : Int32)) hx hb dX8_readsPerson_8 (by decide) ?_
  refine lv_icmp_eq (tgt := 41) hx hb dX8_readsPerson_9 (by decide) (fun c1 => ?_) (fun c1 => ?_)
  · have hF := op_pos c1 hF
    refine lv_iconst (v := (0 : Int32)) hx hb dX8_readsPerson_41 (by decide) ?_
    cases hF
    rw [hQ]
    exact xrz hC rfl hP hS dX8_readsPerson_42
  · have hF := op_neg c1 hF
    refine lv_aload_n hx hb dX8_readsPerson_12 rfl (lv_at hl 1 rfl) ?_
    refine lv_iconst (v := (1 : Int32)) hx hb dX8_readsPerson_13 (by decide) ?_
    obtain ⟨⟨r2, m_readAt_3, m_told_4⟩, hb5, hF⟩ := op_bind hF
    refine xVi (As := [.int (1 : Int32)]) (rest := []) hC hP hD hS [0, 1, 2] (c_X8_readsNumbers l D cI cC cM ax a_text a_told a_readLaw a_readNow a_law a_now a_tried a_undos a_seenHour a_seenAt a_parts a_partsThen a_kept m_letterMany m_readAt m_undoMany m_undoAt m_seenMany m_keptMany m_text m_told (1 : Int32) r2 m_readAt_3 m_told_4 hb5) (cwV 1 hts gX8_readsPerson_X8_readsNumbers rfl rfl rfl ⟨rfl, pd_X8_readsNumbers⟩ ⟨Nat.le_of_ble_eq_true rfl, Nat.le_of_ble_eq_true rfl⟩) rfl rfl rfl 0 8 rfl rfl rfl rfl hl.1 rfl (Nat.le_of_ble_eq_true rfl) dX8_readsPerson_14 ⟨Nat.zero_le _, Nat.zero_le _⟩ (fun H locs hP hD hS => ?_)
    have hP : va_P D vwCl [(ax, .inr (8, [.int m_letterMany, .ref a_text, .int m_readAt_3, .ref a_told, .ref a_readLaw, .ref a_readNow, .ref a_law, .ref a_now, .ref a_tried, .int m_undoMany, .int m_undoAt, .ref a_undos, .int m_seenMany, .ref a_seenHour, .ref a_seenAt, .ref a_parts, .ref a_partsThen, .int m_keptMany, .ref a_kept])), (a_text, .inl (cI, 200, .inl m_text)), (a_told, .inl (cI, 3, .inl m_told_4)), (a_readLaw, .inl (cI, 22, .inl m_readLaw)), (a_readNow, .inl (cI, 26, .inl m_readNow))] H := hP
    have hD : va_D A [(ax, .inr (8, [.int m_letterMany, .ref a_text, .int m_readAt_3, .ref a_told, .ref a_readLaw, .ref a_readNow, .ref a_law, .ref a_now, .ref a_tried, .int m_undoMany, .int m_undoAt, .ref a_undos, .int m_seenMany, .ref a_seenHour, .ref a_seenAt, .ref a_parts, .ref a_partsThen, .int m_keptMany, .ref a_kept])), (a_text, .inl (cI, 200, .inl m_text)), (a_told, .inl (cI, 3, .inl m_told_4)), (a_readLaw, .inl (cI, 22, .inl m_readLaw)), (a_readNow, .inl (cI, 26, .inl m_readNow))] := hD
    refine lv_if_eq (tgt := 41) hx hb dX8_readsPerson_17 (by decide) (fun c6 => ?_) (fun c6 => ?_)
    · have hF := op_pos c6 hF
      refine lv_iconst (v := (0 : Int32)) hx hb dX8_readsPerson_41 (by decide) ?_
      cases hF
      rw [hQ]
      exact xrz hC rfl hP hS dX8_readsPerson_42
    · have hF := op_neg c6 hF
      refine lv_aload_n hx hb dX8_readsPerson_20 rfl (lv_at hl 1 rfl) ?_
      refine va_get (D := D) (ci := 8) (v := .ref a_told) (C := RX8) (T := TX8) (N := 19) hx hb hts iX8 hown hK hP 0 rfl rfl 3 (by decide) k_f13 (fun _ h9 => h9) rfl dX8_readsPerson_21 ?_
      refine lv_iconst (v := (0 : Int32)) hx hb dX8_readsPerson_24 (by decide) ?_
      refine va_iald hx hb hK hP 2 0 rfl rfl (okb_in (by decide)) dX8_readsPerson_25 ?_
      refine lv_iconst (v := (0 : Int32)) hx hb dX8_readsPerson_26 (by decide) ?_
      refine lv_aload_n hx hb dX8_readsPerson_27 rfl (lv_at hl 1 rfl) ?_
      refine va_get (D := D) (ci := 8) (v := .ref a_readLaw) (C := RX8) (T := TX8) (N := 19) hx hb hts iX8 hown hK hP 0 rfl rfl 4 (by decide) k_f16 (fun _ h9 => h9) rfl dX8_readsPerson_28 ?_
      refine lv_iconst (v := (0 : Int32)) hx hb dX8_readsPerson_31 (by decide) ?_
      refine va_iald hx hb hK hP 3 0 rfl rfl (okb_in (by decide)) dX8_readsPerson_32 ?_
      refine lv_iconst (v := (1 : Int32)) hx hb dX8_readsPerson_33 (by decide) ?_
      refine lv_isub hx hb dX8_readsPerson_34 ?_
      obtain ⟨r7, hb8, hF⟩ := op_bind hF
      refine xSr (As := [.int (m_told_4 (0 : Int32).toNatClampNeg), .int (0 : Int32), .int ((m_readLaw (0 : Int32).toNatClampNeg) - (1 : Int32))]) (rest := []) hC hP hD hS [] (c_X8_in l D cI cC cM (m_told_4 (0 : Int32).toNatClampNeg) (0 : Int32) ((m_readLaw (0 : Int32).toNatClampNeg) - (1 : Int32)) r7 hb8) (va_cwS 3 hts gX8_readsPerson_X8_in rfl rfl rfl pd_X8_in ⟨Nat.le_of_ble_eq_true rfl, Nat.le_of_ble_eq_true rfl⟩) rfl rfl rfl hl.1 rfl (Nat.le_of_ble_eq_true rfl) dX8_readsPerson_35 ⟨Nat.zero_le _, Nat.zero_le _⟩ (fun H locs hP hS => ?_)
      refine lv_if_ne (tgt := 43) hx hb dX8_readsPerson_38 (by decide) (fun c9 => ?_) (fun c9 => ?_)
      · have hF := op_neg c9 hF
        refine lv_aload_n hx hb dX8_readsPerson_43 rfl (lv_at hl 1 rfl) ?_
        refine va_get (D := D) (ci := 8) (v := .ref a_readNow) (C := RX8) (T := TX8) (N := 19) hx hb hts iX8 hown hK hP 0 rfl rfl 5 (by decide) k_f19 (fun _ h9 => h9) rfl dX8_readsPerson_44 ?_
        refine lv_bipush (v := (16 : Int32)) hx hb dX8_readsPerson_47 (by decide) ?_
        refine lv_iload_n hx hb dX8_readsPerson_49 rfl (lv_at hl 0 rfl) ?_
        refine lv_iadd hx hb dX8_readsPerson_50 ?_
        refine lv_aload_n hx hb dX8_readsPerson_51 rfl (lv_at hl 1 rfl) ?_
        refine va_get (D := D) (ci := 8) (v := .ref a_told) (C := RX8) (T := TX8) (N := 19) hx hb hts iX8 hown hK hP 0 rfl rfl 3 (by decide) k_f13 (fun _ h9 => h9) rfl dX8_readsPerson_52 ?_
        refine lv_iconst (v := (0 : Int32)) hx hb dX8_readsPerson_55 (by decide) ?_
        refine va_iald hx hb hK hP 2 0 rfl rfl (okb_in (by decide)) dX8_readsPerson_56 ?_
        obtain ⟨o10, hF⟩ := op_ob hF
        refine va_iast hx hb hK hP hD hS 4 0 rfl rfl (okb_in o10) dX8_readsPerson_57 (fun H locs hP hD hS => ?_)
        have hP : va_P D vwCl [(ax, .inr (8, [.int m_letterMany, .ref a_text, .int m_readAt_3, .ref a_told, .ref a_readLaw, .ref a_readNow, .ref a_law, .ref a_now, .ref a_tried, .int m_undoMany, .int m_undoAt, .ref a_undos, .int m_seenMany, .ref a_seenHour, .ref a_seenAt, .ref a_parts, .ref a_partsThen, .int m_keptMany, .ref a_kept])), (a_text, .inl (cI, 200, .inl m_text)), (a_told, .inl (cI, 3, .inl m_told_4)), (a_readLaw, .inl (cI, 22, .inl m_readLaw)), (a_readNow, .inl (cI, 26, .inl (upd m_readNow ((16 : Int32) + (m_readLaw (2 : Int32).toNatClampNeg)).toNatClampNeg (m_told_4 (0 : Int32).toNatClampNeg))))] H := hP
        have hD : va_D A [(ax, .inr (8, [.int m_letterMany, .ref a_text, .int m_readAt_3, .ref a_told, .ref a_readLaw, .ref a_readNow, .ref a_law, .ref a_now, .ref a_tried, .int m_undoMany, .int m_undoAt, .ref a_undos, .int m_seenMany, .ref a_seenHour, .ref a_seenAt, .ref a_parts, .ref a_partsThen, .int m_keptMany, .ref a_kept])), (a_text, .inl (cI, 200, .inl m_text)), (a_told, .inl (cI, 3, .inl m_told_4)), (a_readLaw, .inl (cI, 22, .inl m_readLaw)), (a_readNow, .inl (cI, 26, .inl (upd m_readNow ((16 : Int32) + (m_readLaw (2 : Int32).toNatClampNeg)).toNatClampNeg (m_told_4 (0 : Int32).toNatClampNeg))))] := hD
        refine lv_aload_n hx hb dX8_readsPerson_58 rfl (lv_at hl 1 rfl) ?_
        refine va_get (D := D) (ci := 8) (v := .ref a_readLaw) (C := RX8) (T := TX8) (N := 19) hx hb hts iX8 hown hK hP 0 rfl rfl 4 (by decide) k_f16 (fun _ h9 => h9) rfl dX8_readsPerson_59 ?_
        refine lv_iconst (v := (2 : Int32)) hx hb dX8_readsPerson_62 (by decide) ?_
        refine lv_dup2_11 hx hb dX8_readsPerson_63 rfl rfl ?_
        refine va_iald hx hb hK hP 3 0 rfl rfl (okb_in (by decide)) dX8_readsPerson_64 ?_
        refine lv_iconst (v := (1 : Int32)) hx hb dX8_readsPerson_65 (by decide) ?_
        refine lv_iadd hx hb dX8_readsPerson_66 ?_
        refine va_iast hx hb hK hP hD hS 3 0 rfl rfl (okb_in (by decide)) dX8_readsPerson_67 (fun H locs hP hD hS => ?_)
        have hP : va_P D vwCl [(ax, .inr (8, [.int m_letterMany, .ref a_text, .int m_readAt_3, .ref a_told, .ref a_readLaw, .ref a_readNow, .ref a_law, .ref a_now, .ref a_tried, .int m_undoMany, .int m_undoAt, .ref a_undos, .int m_seenMany, .ref a_seenHour, .ref a_seenAt, .ref a_parts, .ref a_partsThen, .int m_keptMany, .ref a_kept])), (a_text, .inl (cI, 200, .inl m_text)), (a_told, .inl (cI, 3, .inl m_told_4)), (a_readLaw, .inl (cI, 22, .inl (upd m_readLaw (2 : Int32).toNatClampNeg ((m_readLaw (2 : Int32).toNatClampNeg) + (1 : Int32))))), (a_readNow, .inl (cI, 26, .inl (upd m_readNow ((16 : Int32) + (m_readLaw (2 : Int32).toNatClampNeg)).toNatClampNeg (m_told_4 (0 : Int32).toNatClampNeg))))] H := hP
        have hD : va_D A [(ax, .inr (8, [.int m_letterMany, .ref a_text, .int m_readAt_3, .ref a_told, .ref a_readLaw, .ref a_readNow, .ref a_law, .ref a_now, .ref a_tried, .int m_undoMany, .int m_undoAt, .ref a_undos, .int m_seenMany, .ref a_seenHour, .ref a_seenAt, .ref a_parts, .ref a_partsThen, .int m_keptMany, .ref a_kept])), (a_text, .inl (cI, 200, .inl m_text)), (a_told, .inl (cI, 3, .inl m_told_4)), (a_readLaw, .inl (cI, 22, .inl (upd m_readLaw (2 : Int32).toNatClampNeg ((m_readLaw (2 : Int32).toNatClampNeg) + (1 : Int32))))), (a_readNow, .inl (cI, 26, .inl (upd m_readNow ((16 : Int32) + (m_readLaw (2 : Int32).toNatClampNeg)).toNatClampNeg (m_told_4 (0 : Int32).toNatClampNeg))))] := hD
        refine lv_iconst (v := (1 : Int32)) hx hb dX8_readsPerson_68 (by decide) ?_
        cases hF
        rw [hQ]
        exact xrz hC rfl hP hS dX8_readsPerson_69
      · have hF := op_pos c9 hF
        refine lv_iconst (v := (0 : Int32)) hx hb dX8_readsPerson_41 (by decide) ?_
        cases hF
        rw [hQ]
        exact xrz hC rfl hP hS dX8_readsPerson_42

def f_X8_readsWork (m_letterMany : Int32) (m_readAt : Int32) (m_text : (Nat → Int32)) (m_told : (Nat → Int32)) (m_readLaw : (Nat → Int32)) : Option (Int32 × Int32 × (Nat → Int32) × (Nat → Int32)) := (if (m_readLaw (3 : Int32).toNatClampNeg) = (6 : Int32) then (some ((0 : Int32), m_readAt, m_told, m_readLaw)) else (Option.bind (f_X8_readsNumbers m_letterMany m_readAt m_text m_told (2 : Int32)) fun (r2, m_readAt_3, m_told_4) => (if r2 = 0 then (some ((0 : Int32), m_readAt_3, m_told_4, m_readLaw)) else (Option.bind (f_X8_in (m_told_4 (0 : Int32).toNatClampNeg) (0 : Int32) ((m_readLaw (0 : Int32).toNatClampNeg) - (1 : Int32))) fun r7 => (if r7 = 0 then (some ((0 : Int32), m_readAt_3, m_told_4, m_readLaw)) else (Option.bind (f_X8_in (m_told_4 (1 : Int32).toNatClampNeg) (0 : Int32) (23 : Int32)) fun r10 => (if r10 = 0 then (some ((0 : Int32), m_readAt_3, m_told_4, m_readLaw)) else (if okb ((10 : Int32) + (m_readLaw (3 : Int32).toNatClampNeg)) 22 = true then (if okb ((16 : Int32) + (m_readLaw (3 : Int32).toNatClampNeg)) 22 = true then (some ((1 : Int32), m_readAt_3, m_told_4, (upd (upd (upd m_readLaw ((10 : Int32) + (m_readLaw (3 : Int32).toNatClampNeg)).toNatClampNeg (m_told_4 (0 : Int32).toNatClampNeg)) ((16 : Int32) + (m_readLaw (3 : Int32).toNatClampNeg)).toNatClampNeg (m_told_4 (1 : Int32).toNatClampNeg)) (3 : Int32).toNatClampNeg (((upd (upd m_readLaw ((10 : Int32) + (m_readLaw (3 : Int32).toNatClampNeg)).toNatClampNeg (m_told_4 (0 : Int32).toNatClampNeg)) ((16 : Int32) + (m_readLaw (3 : Int32).toNatClampNeg)).toNatClampNeg (m_told_4 (1 : Int32).toNatClampNeg)) (3 : Int32).toNatClampNeg) + (1 : Int32))))) else none) else none))))))))

def rm_X8_readsWork : Room := { frames := 3, cells := 0, slots := 0, locals := 65 }

theorem pd_X8_readsWork : yX8_readsWork.cls ≠ "java/lang/invoke/MethodHandle" ∧ yX8_readsWork.cls ≠ "java/lang/invoke/VarHandle" ∧ (parseMethodDescriptor yX8_readsWork.desc).map (fun d => d.parameters.length) = some 0 := by decide +kernel

set_option maxHeartbeats 4000000 in
set_option maxRecDepth 100000 in
theorem c_X8_readsWork (l : Launch) (D : va_G) (cI cC cM : ClassId) (ax a_text a_told a_readLaw a_readNow a_law a_now a_tried a_undos a_seenHour a_seenAt a_parts a_partsThen a_kept : Nat) (m_letterMany : Int32) (m_readAt : Int32) (m_undoMany : Int32) (m_undoAt : Int32) (m_seenMany : Int32) (m_keptMany : Int32) (m_text : (Nat → Int32)) (m_told : (Nat → Int32)) (m_readLaw : (Nat → Int32)) (rr : Int32) (m_readAt' : Int32) (m_told' : (Nat → Int32)) (m_readLaw' : (Nat → Int32)) (hF : f_X8_readsWork m_letterMany m_readAt m_text m_told m_readLaw = some (rr, m_readAt', m_told', m_readLaw')) : CI l D cI cC cM yX8_readsWork wsX8_readsWork rm_X8_readsWork [.ref ax] [(ax, .inr (8, [.int m_letterMany, .ref a_text, .int m_readAt, .ref a_told, .ref a_readLaw, .ref a_readNow, .ref a_law, .ref a_now, .ref a_tried, .int m_undoMany, .int m_undoAt, .ref a_undos, .int m_seenMany, .ref a_seenHour, .ref a_seenAt, .ref a_parts, .ref a_partsThen, .int m_keptMany, .ref a_kept])), (a_text, .inl (cI, 200, .inl m_text)), (a_told, .inl (cI, 3, .inl m_told)), (a_readLaw, .inl (cI, 22, .inl m_readLaw))] [(ax, .inr (8, [.int m_letterMany, .ref a_text, .int m_readAt', .ref a_told, .ref a_readLaw, .ref a_readNow, .ref a_law, .ref a_now, .ref a_tried, .int m_undoMany, .int m_undoAt, .ref a_undos, .int m_seenMany, .ref a_seenHour, .ref a_seenAt, .ref a_parts, .ref a_partsThen, .int m_keptMany, .ref a_kept])), (a_text, .inl (cI, 200, .inl m_text)), (a_told, .inl (cI, 3, .inl m_told')), (a_readLaw, .inl (cI, 22, .inl m_readLaw'))] rr := by
  refine CI.of (cc := cX8_readsWork) (nL := 2) (ret := (some .boolean)) (by decide) rfl (Nat.le_of_ble_eq_true rfl) ?_
  intro p e s m args below meth c A hC hP hD hS ls hl
  obtain ⟨hx, hb, hml, hown, hts, hr, hlk, hG, hA⟩ := id hC
  have hown : s.vm.findClass RX8 = some m.cls := hown
  have hK := hG.1
  have hl : lv_has ls 2 [(0, .ref ax)] := hl
  have k_f16 := hts (.fieldLink RX8 16 "ParasolHoursModel" "readLaw" "[I") (List.mem_of_getElem? (i := 1) rfl)
  have k_f13 := hts (.fieldLink RX8 13 "ParasolHoursModel" "told" "[I") (List.mem_of_getElem? (i := 2) rfl)
  have iX8 : ∀ w ∈ wsX80, w ∈ wsX8_readsWork := by decide +kernel
  obtain ⟨Q, hQ⟩ : ∃ Q, Q = MQ below (QI D [(ax, .inr (8, [.int m_letterMany, .ref a_text, .int m_readAt', .ref a_told, .ref a_readLaw, .ref a_readNow, .ref a_law, .ref a_now, .ref a_tried, .int m_undoMany, .int m_undoAt, .ref a_undos, .int m_seenMany, .ref a_seenHour, .ref a_seenAt, .ref a_parts, .ref a_partsThen, .int m_keptMany, .ref a_kept])), (a_text, .inl (cI, 200, .inl m_text)), (a_told, .inl (cI, 3, .inl m_told')), (a_readLaw, .inl (cI, 22, .inl m_readLaw'))] rr A) args s 0 0 A := ⟨_, rfl⟩
  rw [← hQ]
  unfold f_X8_readsWork at hF
  refine lv_aload_n hx hb dX8_readsWork_0 rfl (lv_at hl 0 rfl) ?_
  refine va_get (D := D) (ci := 8) (v := .ref a_readLaw) (C := RX8) (T := TX8) (N := 19) hx hb hts iX8 hown hK hP 0 rfl rfl 4 (by decide) k_f16 (fun _ h9 => h9) rfl dX8_readsWork_1 ?_
  refine lv_iconst (v := (3 : Int32)) hx hb dX8_readsWork_4 (by decide) ?_
  refine va_iald hx hb hK hP 3 0 rfl rfl (okb_in (by decide)) dX8_readsWork_5 ?_
  refine lv_istore_n (lv' := [(1, .int (m_readLaw (3 : Int32).toNatClampNeg)), (0, .ref ax)]) hx hb dX8_readsWork_6 rfl hl (by decide) rfl (fun ls hl => ?_)
  refine lv_iload_n hx hb dX8_readsWork_7 rfl (lv_at hl 0 rfl) ?_
  refine lv_bipush (v := (6 : Int32)) hx hb dX8_readsWork_8 (by decide) ?_
  refine lv_icmp_eq (tgt := 57) hx hb dX8_readsWork_10 (by decide) (fun c1 => ?_) (fun c1 => ?_)
  · have hF := op_pos c1 hF
    refine lv_iconst (v := (0 : Int32)) hx hb dX8_readsWork_57 (by decide) ?_
    cases hF
    rw [hQ]
    exact xrz hC rfl hP hS dX8_readsWork_58
  · have hF := op_neg c1 hF
    refine lv_aload_n hx hb dX8_readsWork_13 rfl (lv_at hl 1 rfl) ?_
    refine lv_iconst (v := (2 : Int32)) hx hb dX8_readsWork_14 (by decide) ?_
    obtain ⟨⟨r2, m_readAt_3, m_told_4⟩, hb5, hF⟩ := op_bind hF
    refine xVi (As := [.int (2 : Int32)]) (rest := []) hC hP hD hS [0, 1, 2] (c_X8_readsNumbers l D cI cC cM ax a_text a_told a_readLaw a_readNow a_law a_now a_tried a_undos a_seenHour a_seenAt a_parts a_partsThen a_kept m_letterMany m_readAt m_undoMany m_undoAt m_seenMany m_keptMany m_text m_told (2 : Int32) r2 m_readAt_3 m_told_4 hb5) (cwV 1 hts gX8_readsWork_X8_readsNumbers rfl rfl rfl ⟨rfl, pd_X8_readsNumbers⟩ ⟨Nat.le_of_ble_eq_true rfl, Nat.le_of_ble_eq_true rfl⟩) rfl rfl rfl 0 8 rfl rfl rfl rfl hl.1 rfl (Nat.le_of_ble_eq_true rfl) dX8_readsWork_15 ⟨Nat.zero_le _, Nat.zero_le _⟩ (fun H locs hP hD hS => ?_)
    have hP : va_P D vwCl [(ax, .inr (8, [.int m_letterMany, .ref a_text, .int m_readAt_3, .ref a_told, .ref a_readLaw, .ref a_readNow, .ref a_law, .ref a_now, .ref a_tried, .int m_undoMany, .int m_undoAt, .ref a_undos, .int m_seenMany, .ref a_seenHour, .ref a_seenAt, .ref a_parts, .ref a_partsThen, .int m_keptMany, .ref a_kept])), (a_text, .inl (cI, 200, .inl m_text)), (a_told, .inl (cI, 3, .inl m_told_4)), (a_readLaw, .inl (cI, 22, .inl m_readLaw))] H := hP
    have hD : va_D A [(ax, .inr (8, [.int m_letterMany, .ref a_text, .int m_readAt_3, .ref a_told, .ref a_readLaw, .ref a_readNow, .ref a_law, .ref a_now, .ref a_tried, .int m_undoMany, .int m_undoAt, .ref a_undos, .int m_seenMany, .ref a_seenHour, .ref a_seenAt, .ref a_parts, .ref a_partsThen, .int m_keptMany, .ref a_kept])), (a_text, .inl (cI, 200, .inl m_text)), (a_told, .inl (cI, 3, .inl m_told_4)), (a_readLaw, .inl (cI, 22, .inl m_readLaw))] := hD
    refine lv_if_eq (tgt := 57) hx hb dX8_readsWork_18 (by decide) (fun c6 => ?_) (fun c6 => ?_)
    · have hF := op_pos c6 hF
      refine lv_iconst (v := (0 : Int32)) hx hb dX8_readsWork_57 (by decide) ?_
      cases hF
      rw [hQ]
      exact xrz hC rfl hP hS dX8_readsWork_58
    · have hF := op_neg c6 hF
      refine lv_aload_n hx hb dX8_readsWork_21 rfl (lv_at hl 1 rfl) ?_
      refine va_get (D := D) (ci := 8) (v := .ref a_told) (C := RX8) (T := TX8) (N := 19) hx hb hts iX8 hown hK hP 0 rfl rfl 3 (by decide) k_f13 (fun _ h9 => h9) rfl dX8_readsWork_22 ?_
      refine lv_iconst (v := (0 : Int32)) hx hb dX8_readsWork_25 (by decide) ?_
      refine va_iald hx hb hK hP 2 0 rfl rfl (okb_in (by decide)) dX8_readsWork_26 ?_
      refine lv_iconst (v := (0 : Int32)) hx hb dX8_readsWork_27 (by decide) ?_
      refine lv_aload_n hx hb dX8_readsWork_28 rfl (lv_at hl 1 rfl) ?_
      refine va_get (D := D) (ci := 8) (v := .ref a_readLaw) (C := RX8) (T := TX8) (N := 19) hx hb hts iX8 hown hK hP 0 rfl rfl 4 (by decide) k_f16 (fun _ h9 => h9) rfl dX8_readsWork_29 ?_
      refine lv_iconst (v := (0 : Int32)) hx hb dX8_readsWork_32 (by decide) ?_
      refine va_iald hx hb hK hP 3 0 rfl rfl (okb_in (by decide)) dX8_readsWork_33 ?_
      refine lv_iconst (v := (1 : Int32)) hx hb dX8_readsWork_34 (by decide) ?_
      refine lv_isub hx hb dX8_readsWork_35 ?_
      obtain ⟨r7, hb8, hF⟩ := op_bind hF
      refine xSr (As := [.int (m_told_4 (0 : Int32).toNatClampNeg), .int (0 : Int32), .int ((m_readLaw (0 : Int32).toNatClampNeg) - (1 : Int32))]) (rest := []) hC hP hD hS [] (c_X8_in l D cI cC cM (m_told_4 (0 : Int32).toNatClampNeg) (0 : Int32) ((m_readLaw (0 : Int32).toNatClampNeg) - (1 : Int32)) r7 hb8) (va_cwS 3 hts gX8_readsWork_X8_in rfl rfl rfl pd_X8_in ⟨Nat.le_of_ble_eq_true rfl, Nat.le_of_ble_eq_true rfl⟩) rfl rfl rfl hl.1 rfl (Nat.le_of_ble_eq_true rfl) dX8_readsWork_36 ⟨Nat.zero_le _, Nat.zero_le _⟩ (fun H locs hP hS => ?_)
      refine lv_if_eq (tgt := 57) hx hb dX8_readsWork_39 (by decide) (fun c9 => ?_) (fun c9 => ?_)
      · have hF := op_pos c9 hF
        refine lv_iconst (v := (0 : Int32)) hx hb dX8_readsWork_57 (by decide) ?_
        cases hF
        rw [hQ]
        exact xrz hC rfl hP hS dX8_readsWork_58
      · have hF := op_neg c9 hF
        refine lv_aload_n hx hb dX8_readsWork_42 rfl (lv_at hl 1 rfl) ?_
        refine va_get (D := D) (ci := 8) (v := .ref a_told) (C := RX8) (T := TX8) (N := 19) hx hb hts iX8 hown hK hP 0 rfl rfl 3 (by decide) k_f13 (fun _ h9 => h9) rfl dX8_readsWork_43 ?_
        refine lv_iconst (v := (1 : Int32)) hx hb dX8_readsWork_46 (by decide) ?_
        refine va_iald hx hb hK hP 2 0 rfl rfl (okb_in (by decide)) dX8_readsWork_47 ?_
        refine lv_iconst (v := (0 : Int32)) hx hb dX8_readsWork_48 (by decide) ?_
        refine lv_bipush (v := (23 : Int32)) hx hb dX8_readsWork_49 (by decide) ?_
        obtain ⟨r10, hb11, hF⟩ := op_bind hF
        refine xSr (As := [.int (m_told_4 (1 : Int32).toNatClampNeg), .int (0 : Int32), .int (23 : Int32)]) (rest := []) hC hP hD hS [] (c_X8_in l D cI cC cM (m_told_4 (1 : Int32).toNatClampNeg) (0 : Int32) (23 : Int32) r10 hb11) (va_cwS 3 hts gX8_readsWork_X8_in rfl rfl rfl pd_X8_in ⟨Nat.le_of_ble_eq_true rfl, Nat.le_of_ble_eq_true rfl⟩) rfl rfl rfl hl.1 rfl (Nat.le_of_ble_eq_true rfl) dX8_readsWork_51 ⟨Nat.zero_le _, Nat.zero_le _⟩ (fun H locs hP hS => ?_)
        refine lv_if_ne (tgt := 59) hx hb dX8_readsWork_54 (by decide) (fun c12 => ?_) (fun c12 => ?_)
        · have hF := op_neg c12 hF
          refine lv_aload_n hx hb dX8_readsWork_59 rfl (lv_at hl 1 rfl) ?_
          refine va_get (D := D) (ci := 8) (v := .ref a_readLaw) (C := RX8) (T := TX8) (N := 19) hx hb hts iX8 hown hK hP 0 rfl rfl 4 (by decide) k_f16 (fun _ h9 => h9) rfl dX8_readsWork_60 ?_
          refine lv_bipush (v := (10 : Int32)) hx hb dX8_readsWork_63 (by decide) ?_
          refine lv_iload_n hx hb dX8_readsWork_65 rfl (lv_at hl 0 rfl) ?_
          refine lv_iadd hx hb dX8_readsWork_66 ?_
          refine lv_aload_n hx hb dX8_readsWork_67 rfl (lv_at hl 1 rfl) ?_
          refine va_get (D := D) (ci := 8) (v := .ref a_told) (C := RX8) (T := TX8) (N := 19) hx hb hts iX8 hown hK hP 0 rfl rfl 3 (by decide) k_f13 (fun _ h9 => h9) rfl dX8_readsWork_68 ?_
          refine lv_iconst (v := (0 : Int32)) hx hb dX8_readsWork_71 (by decide) ?_
          refine va_iald hx hb hK hP 2 0 rfl rfl (okb_in (by decide)) dX8_readsWork_72 ?_
          obtain ⟨o13, hF⟩ := op_ob hF
          refine va_iast hx hb hK hP hD hS 3 0 rfl rfl (okb_in o13) dX8_readsWork_73 (fun H locs hP hD hS => ?_)
          have hP : va_P D vwCl [(ax, .inr (8, [.int m_letterMany, .ref a_text, .int m_readAt_3, .ref a_told, .ref a_readLaw, .ref a_readNow, .ref a_law, .ref a_now, .ref a_tried, .int m_undoMany, .int m_undoAt, .ref a_undos, .int m_seenMany, .ref a_seenHour, .ref a_seenAt, .ref a_parts, .ref a_partsThen, .int m_keptMany, .ref a_kept])), (a_text, .inl (cI, 200, .inl m_text)), (a_told, .inl (cI, 3, .inl m_told_4)), (a_readLaw, .inl (cI, 22, .inl (upd m_readLaw ((10 : Int32) + (m_readLaw (3 : Int32).toNatClampNeg)).toNatClampNeg (m_told_4 (0 : Int32).toNatClampNeg))))] H := hP
          have hD : va_D A [(ax, .inr (8, [.int m_letterMany, .ref a_text, .int m_readAt_3, .ref a_told, .ref a_readLaw, .ref a_readNow, .ref a_law, .ref a_now, .ref a_tried, .int m_undoMany, .int m_undoAt, .ref a_undos, .int m_seenMany, .ref a_seenHour, .ref a_seenAt, .ref a_parts, .ref a_partsThen, .int m_keptMany, .ref a_kept])), (a_text, .inl (cI, 200, .inl m_text)), (a_told, .inl (cI, 3, .inl m_told_4)), (a_readLaw, .inl (cI, 22, .inl (upd m_readLaw ((10 : Int32) + (m_readLaw (3 : Int32).toNatClampNeg)).toNatClampNeg (m_told_4 (0 : Int32).toNatClampNeg))))] := hD
          refine lv_aload_n hx hb dX8_readsWork_74 rfl (lv_at hl 1 rfl) ?_
          refine va_get (D := D) (ci := 8) (v := .ref a_readLaw) (C := RX8) (T := TX8) (N := 19) hx hb hts iX8 hown hK hP 0 rfl rfl 4 (by decide) k_f16 (fun _ h9 => h9) rfl dX8_readsWork_75 ?_
          refine lv_bipush (v := (16 : Int32)) hx hb dX8_readsWork_78 (by decide) ?_
          refine lv_iload_n hx hb dX8_readsWork_80 rfl (lv_at hl 0 rfl) ?_
          refine lv_iadd hx hb dX8_readsWork_81 ?_
          refine lv_aload_n hx hb dX8_readsWork_82 rfl (lv_at hl 1 rfl) ?_
          refine va_get (D := D) (ci := 8) (v := .ref a_told) (C := RX8) (T := TX8) (N := 19) hx hb hts iX8 hown hK hP 0 rfl rfl 3 (by decide) k_f13 (fun _ h9 => h9) rfl dX8_readsWork_83 ?_
          refine lv_iconst (v := (1 : Int32)) hx hb dX8_readsWork_86 (by decide) ?_
          refine va_iald hx hb hK hP 2 0 rfl rfl (okb_in (by decide)) dX8_readsWork_87 ?_
          obtain ⟨o14, hF⟩ := op_ob hF
          refine va_iast hx hb hK hP hD hS 3 0 rfl rfl (okb_in o14) dX8_readsWork_88 (fun H locs hP hD hS => ?_)
          have hP : va_P D vwCl [(ax, .inr (8, [.int m_letterMany, .ref a_text, .int m_readAt_3, .ref a_told, .ref a_readLaw, .ref a_readNow, .ref a_law, .ref a_now, .ref a_tried, .int m_undoMany, .int m_undoAt, .ref a_undos, .int m_seenMany, .ref a_seenHour, .ref a_seenAt, .ref a_parts, .ref a_partsThen, .int m_keptMany, .ref a_kept])), (a_text, .inl (cI, 200, .inl m_text)), (a_told, .inl (cI, 3, .inl m_told_4)), (a_readLaw, .inl (cI, 22, .inl (upd (upd m_readLaw ((10 : Int32) + (m_readLaw (3 : Int32).toNatClampNeg)).toNatClampNeg (m_told_4 (0 : Int32).toNatClampNeg)) ((16 : Int32) + (m_readLaw (3 : Int32).toNatClampNeg)).toNatClampNeg (m_told_4 (1 : Int32).toNatClampNeg))))] H := hP
          have hD : va_D A [(ax, .inr (8, [.int m_letterMany, .ref a_text, .int m_readAt_3, .ref a_told, .ref a_readLaw, .ref a_readNow, .ref a_law, .ref a_now, .ref a_tried, .int m_undoMany, .int m_undoAt, .ref a_undos, .int m_seenMany, .ref a_seenHour, .ref a_seenAt, .ref a_parts, .ref a_partsThen, .int m_keptMany, .ref a_kept])), (a_text, .inl (cI, 200, .inl m_text)), (a_told, .inl (cI, 3, .inl m_told_4)), (a_readLaw, .inl (cI, 22, .inl (upd (upd m_readLaw ((10 : Int32) + (m_readLaw (3 : Int32).toNatClampNeg)).toNatClampNeg (m_told_4 (0 : Int32).toNatClampNeg)) ((16 : Int32) + (m_readLaw (3 : Int32).toNatClampNeg)).toNatClampNeg (m_told_4 (1 : Int32).toNatClampNeg))))] := hD
          refine lv_aload_n hx hb dX8_readsWork_89 rfl (lv_at hl 1 rfl) ?_
          refine va_get (D := D) (ci := 8) (v := .ref a_readLaw) (C := RX8) (T := TX8) (N := 19) hx hb hts iX8 hown hK hP 0 rfl rfl 4 (by decide) k_f16 (fun _ h9 => h9) rfl dX8_readsWork_90 ?_
          refine lv_iconst (v := (3 : Int32)) hx hb dX8_readsWork_93 (by decide) ?_
          refine lv_dup2_11 hx hb dX8_readsWork_94 rfl rfl ?_
          refine va_iald hx hb hK hP 3 0 rfl rfl (okb_in (by decide)) dX8_readsWork_95 ?_
          refine lv_iconst (v := (1 : Int32)) hx hb dX8_readsWork_96 (by decide) ?_
          refine lv_iadd hx hb dX8_readsWork_97 ?_
          refine va_iast hx hb hK hP hD hS 3 0 rfl rfl (okb_in (by decide)) dX8_readsWork_98 (fun H locs hP hD hS => ?_)
          have hP : va_P D vwCl [(ax, .inr (8, [.int m_letterMany, .ref a_text, .int m_readAt_3, .ref a_told, .ref a_readLaw, .ref a_readNow, .ref a_law, .ref a_now, .ref a_tried, .int m_undoMany, .int m_undoAt, .ref a_undos, .int m_seenMany, .ref a_seenHour, .ref a_seenAt, .ref a_parts, .ref a_partsThen, .int m_keptMany, .ref a_kept])), (a_text, .inl (cI, 200, .inl m_text)), (a_told, .inl (cI, 3, .inl m_told_4)), (a_readLaw, .inl (cI, 22, .inl (upd (upd (upd m_readLaw ((10 : Int32) + (m_readLaw (3 : Int32).toNatClampNeg)).toNatClampNeg (m_told_4 (0 : Int32).toNatClampNeg)) ((16 : Int32) + (m_readLaw (3 : Int32).toNatClampNeg)).toNatClampNeg (m_told_4 (1 : Int32).toNatClampNeg)) (3 : Int32).toNatClampNeg (((upd (upd m_readLaw ((10 : Int32) + (m_readLaw (3 : Int32).toNatClampNeg)).toNatClampNeg (m_told_4 (0 : Int32).toNatClampNeg)) ((16 : Int32) + (m_readLaw (3 : Int32).toNatClampNeg)).toNatClampNeg (m_told_4 (1 : Int32).toNatClampNeg)) (3 : Int32).toNatClampNeg) + (1 : Int32)))))] H := hP
          have hD : va_D A [(ax, .inr (8, [.int m_letterMany, .ref a_text, .int m_readAt_3, .ref a_told, .ref a_readLaw, .ref a_readNow, .ref a_law, .ref a_now, .ref a_tried, .int m_undoMany, .int m_undoAt, .ref a_undos, .int m_seenMany, .ref a_seenHour, .ref a_seenAt, .ref a_parts, .ref a_partsThen, .int m_keptMany, .ref a_kept])), (a_text, .inl (cI, 200, .inl m_text)), (a_told, .inl (cI, 3, .inl m_told_4)), (a_readLaw, .inl (cI, 22, .inl (upd (upd (upd m_readLaw ((10 : Int32) + (m_readLaw (3 : Int32).toNatClampNeg)).toNatClampNeg (m_told_4 (0 : Int32).toNatClampNeg)) ((16 : Int32) + (m_readLaw (3 : Int32).toNatClampNeg)).toNatClampNeg (m_told_4 (1 : Int32).toNatClampNeg)) (3 : Int32).toNatClampNeg (((upd (upd m_readLaw ((10 : Int32) + (m_readLaw (3 : Int32).toNatClampNeg)).toNatClampNeg (m_told_4 (0 : Int32).toNatClampNeg)) ((16 : Int32) + (m_readLaw (3 : Int32).toNatClampNeg)).toNatClampNeg (m_told_4 (1 : Int32).toNatClampNeg)) (3 : Int32).toNatClampNeg) + (1 : Int32)))))] := hD
          refine lv_iconst (v := (1 : Int32)) hx hb dX8_readsWork_99 (by decide) ?_
          cases hF
          rw [hQ]
          exact xrz hC rfl hP hS dX8_readsWork_100
        · have hF := op_pos c12 hF
          refine lv_iconst (v := (0 : Int32)) hx hb dX8_readsWork_57 (by decide) ?_
          cases hF
          rw [hQ]
          exact xrz hC rfl hP hS dX8_readsWork_58

def f_X8_readsItem (m_letterMany : Int32) (m_readAt : Int32) (m_text : (Nat → Int32)) (m_told : (Nat → Int32)) (m_readLaw : (Nat → Int32)) (m_readNow : (Nat → Int32)) : Option (Int32 × Int32 × (Nat → Int32) × (Nat → Int32) × (Nat → Int32)) := (Option.bind (f_X8_letterAt m_letterMany m_text m_readAt) fun r1 => (if r1 = (112 : Int32) then (Option.bind (f_X8_readsPerson m_letterMany (m_readAt + (1 : Int32)) m_text m_told m_readLaw m_readNow) fun (r4, m_readAt_5, m_told_6, m_readLaw_7, m_readNow_8) => (if okz r4 = true then (some (r4, m_readAt_5, m_told_6, m_readLaw_7, m_readNow_8)) else none)) else (if r1 = (113 : Int32) then (Option.bind (f_X8_readsSquares m_letterMany (m_readAt + (1 : Int32)) m_text m_told m_readLaw) fun (r12, m_readAt_13, m_told_14, m_readLaw_15) => (if okz r12 = true then (some (r12, m_readAt_13, m_told_14, m_readLaw_15, m_readNow)) else none)) else (if r1 = (114 : Int32) then (some ((0 : Int32), (m_readAt + (1 : Int32)), m_told, m_readLaw, m_readNow)) else (if r1 = (115 : Int32) then (some ((0 : Int32), (m_readAt + (1 : Int32)), m_told, m_readLaw, m_readNow)) else (if r1 = (116 : Int32) then (some ((0 : Int32), (m_readAt + (1 : Int32)), m_told, m_readLaw, m_readNow)) else (if r1 = (117 : Int32) then (Option.bind (f_X8_readsParasol m_letterMany (m_readAt + (1 : Int32)) m_text m_told m_readLaw m_readNow) fun (r22, m_readAt_23, m_told_24, m_readLaw_25, m_readNow_26) => (if okz r22 = true then (some (r22, m_readAt_23, m_told_24, m_readLaw_25, m_readNow_26)) else none)) else (if r1 = (118 : Int32) then (some ((0 : Int32), (m_readAt + (1 : Int32)), m_told, m_readLaw, m_readNow)) else (if r1 = (119 : Int32) then (Option.bind (f_X8_readsWork m_letterMany (m_readAt + (1 : Int32)) m_text m_told m_readLaw) fun (r31, m_readAt_32, m_told_33, m_readLaw_34) => (if okz r31 = true then (some (r31, m_readAt_32, m_told_33, m_readLaw_34, m_readNow)) else none)) else (some ((0 : Int32), (m_readAt + (1 : Int32)), m_told, m_readLaw, m_readNow)))))))))))

def rm_X8_readsItem : Room := { frames := 4, cells := 0, slots := 0, locals := 86 }

theorem pd_X8_readsItem : yX8_readsItem.cls ≠ "java/lang/invoke/MethodHandle" ∧ yX8_readsItem.cls ≠ "java/lang/invoke/VarHandle" ∧ (parseMethodDescriptor yX8_readsItem.desc).map (fun d => d.parameters.length) = some 0 := by decide +kernel

set_option maxHeartbeats 4000000 in
set_option maxRecDepth 100000 in
theorem c_X8_readsItem (l : Launch) (D : va_G) (cI cC cM : ClassId) (ax a_text a_told a_readLaw a_readNow a_law a_now a_tried a_undos a_seenHour a_seenAt a_parts a_partsThen a_kept : Nat) (m_letterMany : Int32) (m_readAt : Int32) (m_undoMany : Int32) (m_undoAt : Int32) (m_seenMany : Int32) (m_keptMany : Int32) (m_text : (Nat → Int32)) (m_told : (Nat → Int32)) (m_readLaw : (Nat → Int32)) (m_readNow : (Nat → Int32)) (rr : Int32) (m_readAt' : Int32) (m_told' : (Nat → Int32)) (m_readLaw' : (Nat → Int32)) (m_readNow' : (Nat → Int32)) (hF : f_X8_readsItem m_letterMany m_readAt m_text m_told m_readLaw m_readNow = some (rr, m_readAt', m_told', m_readLaw', m_readNow')) : CI l D cI cC cM yX8_readsItem wsX8_readsItem rm_X8_readsItem [.ref ax] [(ax, .inr (8, [.int m_letterMany, .ref a_text, .int m_readAt, .ref a_told, .ref a_readLaw, .ref a_readNow, .ref a_law, .ref a_now, .ref a_tried, .int m_undoMany, .int m_undoAt, .ref a_undos, .int m_seenMany, .ref a_seenHour, .ref a_seenAt, .ref a_parts, .ref a_partsThen, .int m_keptMany, .ref a_kept])), (a_text, .inl (cI, 200, .inl m_text)), (a_told, .inl (cI, 3, .inl m_told)), (a_readLaw, .inl (cI, 22, .inl m_readLaw)), (a_readNow, .inl (cI, 26, .inl m_readNow))] [(ax, .inr (8, [.int m_letterMany, .ref a_text, .int m_readAt', .ref a_told, .ref a_readLaw, .ref a_readNow, .ref a_law, .ref a_now, .ref a_tried, .int m_undoMany, .int m_undoAt, .ref a_undos, .int m_seenMany, .ref a_seenHour, .ref a_seenAt, .ref a_parts, .ref a_partsThen, .int m_keptMany, .ref a_kept])), (a_text, .inl (cI, 200, .inl m_text)), (a_told, .inl (cI, 3, .inl m_told')), (a_readLaw, .inl (cI, 22, .inl m_readLaw')), (a_readNow, .inl (cI, 26, .inl m_readNow'))] rr := by
  refine CI.of (cc := cX8_readsItem) (nL := 2) (ret := (some .boolean)) (by decide) rfl (Nat.le_of_ble_eq_true rfl) ?_
  intro p e s m args below meth c A hC hP hD hS ls hl
  obtain ⟨hx, hb, hml, hown, hts, hr, hlk, hG, hA⟩ := id hC
  have hown : s.vm.findClass RX8 = some m.cls := hown
  have hK := hG.1
  have hl : lv_has ls 2 [(0, .ref ax)] := hl
  have k_f65 := hts (.fieldLink RX8 65 "ParasolHoursModel" "readAt" "I") (List.mem_of_getElem? (i := 1) rfl)
  have iX8 : ∀ w ∈ wsX80, w ∈ wsX8_readsItem := by decide +kernel
  obtain ⟨Q, hQ⟩ : ∃ Q, Q = MQ below (QI D [(ax, .inr (8, [.int m_letterMany, .ref a_text, .int m_readAt', .ref a_told, .ref a_readLaw, .ref a_readNow, .ref a_law, .ref a_now, .ref a_tried, .int m_undoMany, .int m_undoAt, .ref a_undos, .int m_seenMany, .ref a_seenHour, .ref a_seenAt, .ref a_parts, .ref a_partsThen, .int m_keptMany, .ref a_kept])), (a_text, .inl (cI, 200, .inl m_text)), (a_told, .inl (cI, 3, .inl m_told')), (a_readLaw, .inl (cI, 22, .inl m_readLaw')), (a_readNow, .inl (cI, 26, .inl m_readNow'))] rr A) args s 0 0 A := ⟨_, rfl⟩
  rw [← hQ]
  unfold f_X8_readsItem at hF
  refine lv_aload_n hx hb dX8_readsItem_0 rfl (lv_at hl 0 rfl) ?_
  refine lv_aload_n hx hb dX8_readsItem_1 rfl (lv_at hl 0 rfl) ?_
  refine va_get (D := D) (ci := 8) (v := .int m_readAt) (C := RX8) (T := TX8) (N := 19) hx hb hts iX8 hown hK hP 0 rfl rfl 2 (by decide) k_f65 (fun _ h9 => h9) rfl dX8_readsItem_2 ?_
  obtain ⟨r1, hb2, hF⟩ := op_bind hF
  refine xVr (As := [.int m_readAt]) (rest := []) hC hP hD hS [0, 1] (c_X8_letterAt l D cI cC cM ax a_text a_told a_readLaw a_readNow a_law a_now a_tried a_undos a_seenHour a_seenAt a_parts a_partsThen a_kept m_letterMany m_readAt m_undoMany m_undoAt m_seenMany m_keptMany m_text m_readAt r1 hb2) (cwV 1 hts gX8_readsItem_X8_letterAt rfl rfl rfl ⟨rfl, pd_X8_letterAt⟩ ⟨Nat.le_of_ble_eq_true rfl, Nat.le_of_ble_eq_true rfl⟩) rfl rfl 0 8 rfl rfl rfl rfl hl.1 rfl (Nat.le_of_ble_eq_true rfl) dX8_readsItem_5 ⟨Nat.zero_le _, Nat.zero_le _⟩ (fun H locs hP hS => ?_)
  refine lv_istore_n (lv' := [(1, .int r1), (0, .ref ax)]) hx hb dX8_readsItem_8 rfl hl (by decide) rfl (fun ls hl => ?_)
  refine lv_aload_n hx hb dX8_readsItem_9 rfl (lv_at hl 1 rfl) ?_
  refine lv_dup hx hb dX8_readsItem_10 rfl ?_
  refine va_get (D := D) (ci := 8) (v := .int m_readAt) (C := RX8) (T := TX8) (N := 19) hx hb hts iX8 hown hK hP 0 rfl rfl 2 (by decide) k_f65 (fun _ h9 => h9) rfl dX8_readsItem_11 ?_
  refine lv_iconst (v := (1 : Int32)) hx hb dX8_readsItem_14 (by decide) ?_
  refine lv_iadd hx hb dX8_readsItem_15 ?_
  refine va_put (D := D) (ci := 8) (v := .int (m_readAt + (1 : Int32))) (ty := .int) (C := RX8) (T := TX8) (N := 19) hx hb hts iX8 tyX8 tyX8_ok nmX8 hown hK hP hD hS 0 rfl rfl 2 (by decide) k_f65 (fun _ h9 => h9) rfl (by decide +kernel) rfl rfl (Nat.le_of_ble_eq_true rfl) dX8_readsItem_16 (fun H locs hP hD hS => ?_)
  have hP : va_P D vwCl [(ax, .inr (8, [.int m_letterMany, .ref a_text, .int (m_readAt + (1 : Int32)), .ref a_told, .ref a_readLaw, .ref a_readNow, .ref a_law, .ref a_now, .ref a_tried, .int m_undoMany, .int m_undoAt, .ref a_undos, .int m_seenMany, .ref a_seenHour, .ref a_seenAt, .ref a_parts, .ref a_partsThen, .int m_keptMany, .ref a_kept])), (a_text, .inl (cI, 200, .inl m_text)), (a_told, .inl (cI, 3, .inl m_told)), (a_readLaw, .inl (cI, 22, .inl m_readLaw)), (a_readNow, .inl (cI, 26, .inl m_readNow))] H := hP
  have hD : va_D A [(ax, .inr (8, [.int m_letterMany, .ref a_text, .int (m_readAt + (1 : Int32)), .ref a_told, .ref a_readLaw, .ref a_readNow, .ref a_law, .ref a_now, .ref a_tried, .int m_undoMany, .int m_undoAt, .ref a_undos, .int m_seenMany, .ref a_seenHour, .ref a_seenAt, .ref a_parts, .ref a_partsThen, .int m_keptMany, .ref a_kept])), (a_text, .inl (cI, 200, .inl m_text)), (a_told, .inl (cI, 3, .inl m_told)), (a_readLaw, .inl (cI, 22, .inl m_readLaw)), (a_readNow, .inl (cI, 26, .inl m_readNow))] := hD
  refine lv_iload_n hx hb dX8_readsItem_19 rfl (lv_at hl 0 rfl) ?_
  by_cases c3 : r1 = (112 : Int32)
  · have hF := op_pos c3 hF
    refine lv_tableIn (x := r1) (off := 58) (tgt := 78) hx hb dX8_readsItem_20 (by rw [c3]; decide) (by rw [c3]; decide) (by rw [c3]; rfl) (by decide) ?_
    refine lv_aload_n hx hb dX8_readsItem_78 rfl (lv_at hl 1 rfl) ?_
    obtain ⟨⟨r4, m_readAt_5, m_told_6, m_readLaw_7, m_readNow_8⟩, hb9, hF⟩ := op_bind hF
    refine xVi (As := []) (rest := []) hC hP hD hS [0, 1, 2, 3, 4] (c_X8_readsPerson l D cI cC cM ax a_text a_told a_readLaw a_readNow a_law a_now a_tried a_undos a_seenHour a_seenAt a_parts a_partsThen a_kept m_letterMany (m_readAt + (1 : Int32)) m_undoMany m_undoAt m_seenMany m_keptMany m_text m_told m_readLaw m_readNow r4 m_readAt_5 m_told_6 m_readLaw_7 m_readNow_8 hb9) (cwV 0 hts gX8_readsItem_X8_readsPerson rfl rfl rfl ⟨rfl, pd_X8_readsPerson⟩ ⟨Nat.le_of_ble_eq_true rfl, Nat.le_of_ble_eq_true rfl⟩) rfl rfl rfl 0 8 rfl rfl rfl rfl hl.1 rfl (Nat.le_of_ble_eq_true rfl) dX8_readsItem_79 ⟨Nat.zero_le _, Nat.zero_le _⟩ (fun H locs hP hD hS => ?_)
    have hP : va_P D vwCl [(ax, .inr (8, [.int m_letterMany, .ref a_text, .int m_readAt_5, .ref a_told, .ref a_readLaw, .ref a_readNow, .ref a_law, .ref a_now, .ref a_tried, .int m_undoMany, .int m_undoAt, .ref a_undos, .int m_seenMany, .ref a_seenHour, .ref a_seenAt, .ref a_parts, .ref a_partsThen, .int m_keptMany, .ref a_kept])), (a_text, .inl (cI, 200, .inl m_text)), (a_told, .inl (cI, 3, .inl m_told_6)), (a_readLaw, .inl (cI, 22, .inl m_readLaw_7)), (a_readNow, .inl (cI, 26, .inl m_readNow_8))] H := hP
    have hD : va_D A [(ax, .inr (8, [.int m_letterMany, .ref a_text, .int m_readAt_5, .ref a_told, .ref a_readLaw, .ref a_readNow, .ref a_law, .ref a_now, .ref a_tried, .int m_undoMany, .int m_undoAt, .ref a_undos, .int m_seenMany, .ref a_seenHour, .ref a_seenAt, .ref a_parts, .ref a_partsThen, .int m_keptMany, .ref a_kept])), (a_text, .inl (cI, 200, .inl m_text)), (a_told, .inl (cI, 3, .inl m_told_6)), (a_readLaw, .inl (cI, 22, .inl m_readLaw_7)), (a_readNow, .inl (cI, 26, .inl m_readNow_8))] := hD
    obtain ⟨z10, hF⟩ := op_ob hF
    cases hF
    rw [hQ]
    exact xrz hC (okz_n z10) hP hS dX8_readsItem_82
  · have hF := op_neg c3 hF
    by_cases c11 : r1 = (113 : Int32)
    · have hF := op_pos c11 hF
      refine lv_tableIn (x := r1) (off := 48) (tgt := 68) hx hb dX8_readsItem_20 (by rw [c11]; decide) (by rw [c11]; decide) (by rw [c11]; rfl) (by decide) ?_
      refine lv_aload_n hx hb dX8_readsItem_68 rfl (lv_at hl 1 rfl) ?_
      obtain ⟨⟨r12, m_readAt_13, m_told_14, m_readLaw_15⟩, hb16, hF⟩ := op_bind hF
      refine xVi (As := []) (rest := []) hC hP hD hS [0, 1, 2, 3] (c_X8_readsSquares l D cI cC cM ax a_text a_told a_readLaw a_readNow a_law a_now a_tried a_undos a_seenHour a_seenAt a_parts a_partsThen a_kept m_letterMany (m_readAt + (1 : Int32)) m_undoMany m_undoAt m_seenMany m_keptMany m_text m_told m_readLaw r12 m_readAt_13 m_told_14 m_readLaw_15 hb16) (cwV 0 hts gX8_readsItem_X8_readsSquares rfl rfl rfl ⟨rfl, pd_X8_readsSquares⟩ ⟨Nat.le_of_ble_eq_true rfl, Nat.le_of_ble_eq_true rfl⟩) rfl rfl rfl 0 8 rfl rfl rfl rfl hl.1 rfl (Nat.le_of_ble_eq_true rfl) dX8_readsItem_69 ⟨Nat.zero_le _, Nat.zero_le _⟩ (fun H locs hP hD hS => ?_)
      have hP : va_P D vwCl [(ax, .inr (8, [.int m_letterMany, .ref a_text, .int m_readAt_13, .ref a_told, .ref a_readLaw, .ref a_readNow, .ref a_law, .ref a_now, .ref a_tried, .int m_undoMany, .int m_undoAt, .ref a_undos, .int m_seenMany, .ref a_seenHour, .ref a_seenAt, .ref a_parts, .ref a_partsThen, .int m_keptMany, .ref a_kept])), (a_text, .inl (cI, 200, .inl m_text)), (a_told, .inl (cI, 3, .inl m_told_14)), (a_readLaw, .inl (cI, 22, .inl m_readLaw_15)), (a_readNow, .inl (cI, 26, .inl m_readNow))] H := hP
      have hD : va_D A [(ax, .inr (8, [.int m_letterMany, .ref a_text, .int m_readAt_13, .ref a_told, .ref a_readLaw, .ref a_readNow, .ref a_law, .ref a_now, .ref a_tried, .int m_undoMany, .int m_undoAt, .ref a_undos, .int m_seenMany, .ref a_seenHour, .ref a_seenAt, .ref a_parts, .ref a_partsThen, .int m_keptMany, .ref a_kept])), (a_text, .inl (cI, 200, .inl m_text)), (a_told, .inl (cI, 3, .inl m_told_14)), (a_readLaw, .inl (cI, 22, .inl m_readLaw_15)), (a_readNow, .inl (cI, 26, .inl m_readNow))] := hD
      obtain ⟨z17, hF⟩ := op_ob hF
      cases hF
      rw [hQ]
      exact xrz hC (okz_n z17) hP hS dX8_readsItem_72
    · have hF := op_neg c11 hF
      by_cases c18 : r1 = (114 : Int32)
      · have hF := op_pos c18 hF
        refine lv_tableIn (x := r1) (off := 68) (tgt := 88) hx hb dX8_readsItem_20 (by rw [c18]; decide) (by rw [c18]; decide) (by rw [c18]; rfl) (by decide) ?_
        refine lv_iconst (v := (0 : Int32)) hx hb dX8_readsItem_88 (by decide) ?_
        cases hF
        rw [hQ]
        exact xrz hC rfl hP hS dX8_readsItem_89
      · have hF := op_neg c18 hF
        by_cases c19 : r1 = (115 : Int32)
        · have hF := op_pos c19 hF
          refine lv_tableIn (x := r1) (off := 68) (tgt := 88) hx hb dX8_readsItem_20 (by rw [c19]; decide) (by rw [c19]; decide) (by rw [c19]; rfl) (by decide) ?_
          refine lv_iconst (v := (0 : Int32)) hx hb dX8_readsItem_88 (by decide) ?_
          cases hF
          rw [hQ]
          exact xrz hC rfl hP hS dX8_readsItem_89
        · have hF := op_neg c19 hF
          by_cases c20 : r1 = (116 : Int32)
          · have hF := op_pos c20 hF
            refine lv_tableIn (x := r1) (off := 68) (tgt := 88) hx hb dX8_readsItem_20 (by rw [c20]; decide) (by rw [c20]; decide) (by rw [c20]; rfl) (by decide) ?_
            refine lv_iconst (v := (0 : Int32)) hx hb dX8_readsItem_88 (by decide) ?_
            cases hF
            rw [hQ]
            exact xrz hC rfl hP hS dX8_readsItem_89
          · have hF := op_neg c20 hF
            by_cases c21 : r1 = (117 : Int32)
            · have hF := op_pos c21 hF
              refine lv_tableIn (x := r1) (off := 53) (tgt := 73) hx hb dX8_readsItem_20 (by rw [c21]; decide) (by rw [c21]; decide) (by rw [c21]; rfl) (by decide) ?_
              refine lv_aload_n hx hb dX8_readsItem_73 rfl (lv_at hl 1 rfl) ?_
              obtain ⟨⟨r22, m_readAt_23, m_told_24, m_readLaw_25, m_readNow_26⟩, hb27, hF⟩ := op_bind hF
              refine xVi (As := []) (rest := []) hC hP hD hS [0, 1, 2, 3, 4] (c_X8_readsParasol l D cI cC cM ax a_text a_told a_readLaw a_readNow a_law a_now a_tried a_undos a_seenHour a_seenAt a_parts a_partsThen a_kept m_letterMany (m_readAt + (1 : Int32)) m_undoMany m_undoAt m_seenMany m_keptMany m_text m_told m_readLaw m_readNow r22 m_readAt_23 m_told_24 m_readLaw_25 m_readNow_26 hb27) (cwV 0 hts gX8_readsItem_X8_readsParasol rfl rfl rfl ⟨rfl, pd_X8_readsParasol⟩ ⟨Nat.le_of_ble_eq_true rfl, Nat.le_of_ble_eq_true rfl⟩) rfl rfl rfl 0 8 rfl rfl rfl rfl hl.1 rfl (Nat.le_of_ble_eq_true rfl) dX8_readsItem_74 ⟨Nat.zero_le _, Nat.zero_le _⟩ (fun H locs hP hD hS => ?_)
              have hP : va_P D vwCl [(ax, .inr (8, [.int m_letterMany, .ref a_text, .int m_readAt_23, .ref a_told, .ref a_readLaw, .ref a_readNow, .ref a_law, .ref a_now, .ref a_tried, .int m_undoMany, .int m_undoAt, .ref a_undos, .int m_seenMany, .ref a_seenHour, .ref a_seenAt, .ref a_parts, .ref a_partsThen, .int m_keptMany, .ref a_kept])), (a_text, .inl (cI, 200, .inl m_text)), (a_told, .inl (cI, 3, .inl m_told_24)), (a_readLaw, .inl (cI, 22, .inl m_readLaw_25)), (a_readNow, .inl (cI, 26, .inl m_readNow_26))] H := hP
              have hD : va_D A [(ax, .inr (8, [.int m_letterMany, .ref a_text, .int m_readAt_23, .ref a_told, .ref a_readLaw, .ref a_readNow, .ref a_law, .ref a_now, .ref a_tried, .int m_undoMany, .int m_undoAt, .ref a_undos, .int m_seenMany, .ref a_seenHour, .ref a_seenAt, .ref a_parts, .ref a_partsThen, .int m_keptMany, .ref a_kept])), (a_text, .inl (cI, 200, .inl m_text)), (a_told, .inl (cI, 3, .inl m_told_24)), (a_readLaw, .inl (cI, 22, .inl m_readLaw_25)), (a_readNow, .inl (cI, 26, .inl m_readNow_26))] := hD
              obtain ⟨z28, hF⟩ := op_ob hF
              cases hF
              rw [hQ]
              exact xrz hC (okz_n z28) hP hS dX8_readsItem_77
            · have hF := op_neg c21 hF
              by_cases c29 : r1 = (118 : Int32)
              · have hF := op_pos c29 hF
                refine lv_tableIn (x := r1) (off := 68) (tgt := 88) hx hb dX8_readsItem_20 (by rw [c29]; decide) (by rw [c29]; decide) (by rw [c29]; rfl) (by decide) ?_
                refine lv_iconst (v := (0 : Int32)) hx hb dX8_readsItem_88 (by decide) ?_
                cases hF
                rw [hQ]
                exact xrz hC rfl hP hS dX8_readsItem_89
              · have hF := op_neg c29 hF
                by_cases c30 : r1 = (119 : Int32)
                · have hF := op_pos c30 hF
                  refine lv_tableIn (x := r1) (off := 63) (tgt := 83) hx hb dX8_readsItem_20 (by rw [c30]; decide) (by rw [c30]; decide) (by rw [c30]; rfl) (by decide) ?_
                  refine lv_aload_n hx hb dX8_readsItem_83 rfl (lv_at hl 1 rfl) ?_
                  obtain ⟨⟨r31, m_readAt_32, m_told_33, m_readLaw_34⟩, hb35, hF⟩ := op_bind hF
                  refine xVi (As := []) (rest := []) hC hP hD hS [0, 1, 2, 3] (c_X8_readsWork l D cI cC cM ax a_text a_told a_readLaw a_readNow a_law a_now a_tried a_undos a_seenHour a_seenAt a_parts a_partsThen a_kept m_letterMany (m_readAt + (1 : Int32)) m_undoMany m_undoAt m_seenMany m_keptMany m_text m_told m_readLaw r31 m_readAt_32 m_told_33 m_readLaw_34 hb35) (cwV 0 hts gX8_readsItem_X8_readsWork rfl rfl rfl ⟨rfl, pd_X8_readsWork⟩ ⟨Nat.le_of_ble_eq_true rfl, Nat.le_of_ble_eq_true rfl⟩) rfl rfl rfl 0 8 rfl rfl rfl rfl hl.1 rfl (Nat.le_of_ble_eq_true rfl) dX8_readsItem_84 ⟨Nat.zero_le _, Nat.zero_le _⟩ (fun H locs hP hD hS => ?_)
                  have hP : va_P D vwCl [(ax, .inr (8, [.int m_letterMany, .ref a_text, .int m_readAt_32, .ref a_told, .ref a_readLaw, .ref a_readNow, .ref a_law, .ref a_now, .ref a_tried, .int m_undoMany, .int m_undoAt, .ref a_undos, .int m_seenMany, .ref a_seenHour, .ref a_seenAt, .ref a_parts, .ref a_partsThen, .int m_keptMany, .ref a_kept])), (a_text, .inl (cI, 200, .inl m_text)), (a_told, .inl (cI, 3, .inl m_told_33)), (a_readLaw, .inl (cI, 22, .inl m_readLaw_34)), (a_readNow, .inl (cI, 26, .inl m_readNow))] H := hP
                  have hD : va_D A [(ax, .inr (8, [.int m_letterMany, .ref a_text, .int m_readAt_32, .ref a_told, .ref a_readLaw, .ref a_readNow, .ref a_law, .ref a_now, .ref a_tried, .int m_undoMany, .int m_undoAt, .ref a_undos, .int m_seenMany, .ref a_seenHour, .ref a_seenAt, .ref a_parts, .ref a_partsThen, .int m_keptMany, .ref a_kept])), (a_text, .inl (cI, 200, .inl m_text)), (a_told, .inl (cI, 3, .inl m_told_33)), (a_readLaw, .inl (cI, 22, .inl m_readLaw_34)), (a_readNow, .inl (cI, 26, .inl m_readNow))] := hD
                  obtain ⟨z36, hF⟩ := op_ob hF
                  cases hF
                  rw [hQ]
                  exact xrz hC (okz_n z36) hP hS dX8_readsItem_87
                · have hF := op_neg c30 hF
                  refine lv_tableOut (x := r1) (tgt := 88) hx hb dX8_readsItem_20 (by have n0 := lv_neT (a := 112) c3 rfl; have n1 := lv_neT (a := 113) c11 rfl; have n2 := lv_neT (a := 114) c18 rfl; have n3 := lv_neT (a := 115) c19 rfl; have n4 := lv_neT (a := 116) c20 rfl; have n5 := lv_neT (a := 117) c21 rfl; have n6 := lv_neT (a := 118) c29 rfl; have n7 := lv_neT (a := 119) c30 rfl; omega) (by decide) ?_
                  refine lv_iconst (v := (0 : Int32)) hx hb dX8_readsItem_88 (by decide) ?_
                  cases hF
                  rw [hQ]
                  exact xrz hC rfl hP hS dX8_readsItem_89

def f_X8_fault_L7  (k7 : Int32 → (Nat → Int32) → Option (Int32 × Int32 × (Nat → Int32) × (Nat → Int32) × (Nat → Int32))) : Nat → Int32 → (Nat → Int32) → Option (Int32 × Int32 × (Nat → Int32) × (Nat → Int32) × (Nat → Int32))
  | 0, _, _ => none
  | nf7 + 1, v1, m_readLaw_2 => (if (22 : Int32) ≤ v1 then (k7 v1 m_readLaw_2) else (if okb v1 22 = true then (f_X8_fault_L7 k7 nf7 (v1 + (1 : Int32)) (upd m_readLaw_2 v1.toNatClampNeg (0 : Int32))) else none))
theorem f_X8_fault_L7_0  (k7 : Int32 → (Nat → Int32) → Option (Int32 × Int32 × (Nat → Int32) × (Nat → Int32) × (Nat → Int32))) (v1 : Int32) (m_readLaw_2 : (Nat → Int32)) : f_X8_fault_L7 k7 0 v1 m_readLaw_2 = none := rfl
theorem f_X8_fault_L7_s  (k7 : Int32 → (Nat → Int32) → Option (Int32 × Int32 × (Nat → Int32) × (Nat → Int32) × (Nat → Int32))) (nf7 : Nat) (v1 : Int32) (m_readLaw_2 : (Nat → Int32)) : f_X8_fault_L7 k7 (nf7 + 1) v1 m_readLaw_2 = (if (22 : Int32) ≤ v1 then (k7 v1 m_readLaw_2) else (if okb v1 22 = true then (f_X8_fault_L7 k7 nf7 (v1 + (1 : Int32)) (upd m_readLaw_2 v1.toNatClampNeg (0 : Int32))) else none)) := rfl

def f_X8_fault_L28  (k28 : Int32 → (Nat → Int32) → Option (Int32 × Int32 × (Nat → Int32) × (Nat → Int32) × (Nat → Int32))) : Nat → Int32 → (Nat → Int32) → Option (Int32 × Int32 × (Nat → Int32) × (Nat → Int32) × (Nat → Int32))
  | 0, _, _ => none
  | nf28 + 1, v5, m_readNow_6 => (if (26 : Int32) ≤ v5 then (k28 v5 m_readNow_6) else (if okb v5 26 = true then (f_X8_fault_L28 k28 nf28 (v5 + (1 : Int32)) (upd m_readNow_6 v5.toNatClampNeg (0 : Int32))) else none))
theorem f_X8_fault_L28_0  (k28 : Int32 → (Nat → Int32) → Option (Int32 × Int32 × (Nat → Int32) × (Nat → Int32) × (Nat → Int32))) (v5 : Int32) (m_readNow_6 : (Nat → Int32)) : f_X8_fault_L28 k28 0 v5 m_readNow_6 = none := rfl
theorem f_X8_fault_L28_s  (k28 : Int32 → (Nat → Int32) → Option (Int32 × Int32 × (Nat → Int32) × (Nat → Int32) × (Nat → Int32))) (nf28 : Nat) (v5 : Int32) (m_readNow_6 : (Nat → Int32)) : f_X8_fault_L28 k28 (nf28 + 1) v5 m_readNow_6 = (if (26 : Int32) ≤ v5 then (k28 v5 m_readNow_6) else (if okb v5 26 = true then (f_X8_fault_L28 k28 nf28 (v5 + (1 : Int32)) (upd m_readNow_6 v5.toNatClampNeg (0 : Int32))) else none)) := rfl

def f_X8_fault_L55 (m_letterMany : Int32) (m_text : (Nat → Int32)) (k55 : Int32 → (Nat → Int32) → (Nat → Int32) → (Nat → Int32) → Option (Int32 × Int32 × (Nat → Int32) × (Nat → Int32) × (Nat → Int32))) : Nat → Int32 → (Nat → Int32) → (Nat → Int32) → (Nat → Int32) → Option (Int32 × Int32 × (Nat → Int32) × (Nat → Int32) × (Nat → Int32))
  | 0, _, _, _, _ => none
  | nf55 + 1, m_readAt_9, m_told_10, m_readLaw_11, m_readNow_12 => (if m_letterMany ≤ m_readAt_9 then (k55 m_readAt_9 m_told_10 m_readLaw_11 m_readNow_12) else (Option.bind (f_X8_readsItem m_letterMany m_readAt_9 m_text m_told_10 m_readLaw_11 m_readNow_12) fun (r14, m_readAt_15, m_told_16, m_readLaw_17, m_readNow_18) => (if r14 = 0 then (some (m_readAt_9, m_readAt_15, m_told_16, m_readLaw_17, m_readNow_18)) else (f_X8_fault_L55 m_letterMany m_text k55 nf55 m_readAt_15 m_told_16 m_readLaw_17 m_readNow_18))))
theorem f_X8_fault_L55_0 (m_letterMany : Int32) (m_text : (Nat → Int32)) (k55 : Int32 → (Nat → Int32) → (Nat → Int32) → (Nat → Int32) → Option (Int32 × Int32 × (Nat → Int32) × (Nat → Int32) × (Nat → Int32))) (m_readAt_9 : Int32) (m_told_10 : (Nat → Int32)) (m_readLaw_11 : (Nat → Int32)) (m_readNow_12 : (Nat → Int32)) : f_X8_fault_L55 m_letterMany m_text k55 0 m_readAt_9 m_told_10 m_readLaw_11 m_readNow_12 = none := rfl
theorem f_X8_fault_L55_s (m_letterMany : Int32) (m_text : (Nat → Int32)) (k55 : Int32 → (Nat → Int32) → (Nat → Int32) → (Nat → Int32) → Option (Int32 × Int32 × (Nat → Int32) × (Nat → Int32) × (Nat → Int32))) (nf55 : Nat) (m_readAt_9 : Int32) (m_told_10 : (Nat → Int32)) (m_readLaw_11 : (Nat → Int32)) (m_readNow_12 : (Nat → Int32)) : f_X8_fault_L55 m_letterMany m_text k55 (nf55 + 1) m_readAt_9 m_told_10 m_readLaw_11 m_readNow_12 = (if m_letterMany ≤ m_readAt_9 then (k55 m_readAt_9 m_told_10 m_readLaw_11 m_readNow_12) else (Option.bind (f_X8_readsItem m_letterMany m_readAt_9 m_text m_told_10 m_readLaw_11 m_readNow_12) fun (r14, m_readAt_15, m_told_16, m_readLaw_17, m_readNow_18) => (if r14 = 0 then (some (m_readAt_9, m_readAt_15, m_told_16, m_readLaw_17, m_readNow_18)) else (f_X8_fault_L55 m_letterMany m_text k55 nf55 m_readAt_15 m_told_16 m_readLaw_17 m_readNow_18)))) := rfl

def f_X8_fault (m_letterMany : Int32) (m_text : (Nat → Int32)) (m_told : (Nat → Int32)) (m_readLaw : (Nat → Int32)) (m_readNow : (Nat → Int32)) : Option (Int32 × Int32 × (Nat → Int32) × (Nat → Int32) × (Nat → Int32)) := (f_X8_fault_L7 (fun (v1 : Int32) (m_readLaw_2 : (Nat → Int32)) => (f_X8_fault_L28 (fun (v5 : Int32) (m_readNow_6 : (Nat → Int32)) => (f_X8_fault_L55 m_letterMany m_text (fun (m_readAt_9 : Int32) (m_told_10 : (Nat → Int32)) (m_readLaw_11 : (Nat → Int32)) (m_readNow_12 : (Nat → Int32)) => (some ((-4 : Int32), m_readAt_9, m_told_10, m_readLaw_11, m_readNow_12))) 20000 (0 : Int32) m_told (upd m_readLaw_2 (0 : Int32).toNatClampNeg (6 : Int32)) m_readNow_6)) 20000 (0 : Int32) m_readNow)) 20000 (0 : Int32) m_readLaw)

def rm_X8_fault : Room := { frames := 5, cells := 0, slots := 0, locals := 107 }

theorem pd_X8_fault : yX8_fault.cls ≠ "java/lang/invoke/MethodHandle" ∧ yX8_fault.cls ≠ "java/lang/invoke/VarHandle" ∧ (parseMethodDescriptor yX8_fault.desc).map (fun d => d.parameters.length) = some 0 := by decide +kernel

set_option maxHeartbeats 4000000 in
set_option maxRecDepth 100000 in
theorem c_X8_fault (l : Launch) (D : va_G) (cI cC cM : ClassId) (ax a_text a_told a_readLaw a_readNow a_law a_now a_tried a_undos a_seenHour a_seenAt a_parts a_partsThen a_kept : Nat) (m_letterMany : Int32) (m_readAt : Int32) (m_undoMany : Int32) (m_undoAt : Int32) (m_seenMany : Int32) (m_keptMany : Int32) (m_text : (Nat → Int32)) (m_told : (Nat → Int32)) (m_readLaw : (Nat → Int32)) (m_readNow : (Nat → Int32)) (rr : Int32) (m_readAt' : Int32) (m_told' : (Nat → Int32)) (m_readLaw' : (Nat → Int32)) (m_readNow' : (Nat → Int32)) (hF : f_X8_fault m_letterMany m_text m_told m_readLaw m_readNow = some (rr, m_readAt', m_told', m_readLaw', m_readNow')) : CI l D cI cC cM yX8_fault wsX8_fault rm_X8_fault [.ref ax] [(ax, .inr (8, [.int m_letterMany, .ref a_text, .int m_readAt, .ref a_told, .ref a_readLaw, .ref a_readNow, .ref a_law, .ref a_now, .ref a_tried, .int m_undoMany, .int m_undoAt, .ref a_undos, .int m_seenMany, .ref a_seenHour, .ref a_seenAt, .ref a_parts, .ref a_partsThen, .int m_keptMany, .ref a_kept])), (a_text, .inl (cI, 200, .inl m_text)), (a_told, .inl (cI, 3, .inl m_told)), (a_readLaw, .inl (cI, 22, .inl m_readLaw)), (a_readNow, .inl (cI, 26, .inl m_readNow))] [(ax, .inr (8, [.int m_letterMany, .ref a_text, .int m_readAt', .ref a_told, .ref a_readLaw, .ref a_readNow, .ref a_law, .ref a_now, .ref a_tried, .int m_undoMany, .int m_undoAt, .ref a_undos, .int m_seenMany, .ref a_seenHour, .ref a_seenAt, .ref a_parts, .ref a_partsThen, .int m_keptMany, .ref a_kept])), (a_text, .inl (cI, 200, .inl m_text)), (a_told, .inl (cI, 3, .inl m_told')), (a_readLaw, .inl (cI, 22, .inl m_readLaw')), (a_readNow, .inl (cI, 26, .inl m_readNow'))] rr := by
  refine CI.of (cc := cX8_fault) (nL := 2) (ret := (some .int)) (by decide) rfl (Nat.le_of_ble_eq_true rfl) ?_
  intro p e s m args below meth c A hC hP hD hS ls hl
  obtain ⟨hx, hb, hml, hown, hts, hr, hlk, hG, hA⟩ := id hC
  have hown : s.vm.findClass RX8 = some m.cls := hown
  have hK := hG.1
  have hl : lv_has ls 2 [(0, .ref ax)] := hl
  have k_f65 := hts (.fieldLink RX8 65 "ParasolHoursModel" "readAt" "I") (List.mem_of_getElem? (i := 1) rfl)
  have k_f16 := hts (.fieldLink RX8 16 "ParasolHoursModel" "readLaw" "[I") (List.mem_of_getElem? (i := 2) rfl)
  have k_f19 := hts (.fieldLink RX8 19 "ParasolHoursModel" "readNow" "[I") (List.mem_of_getElem? (i := 3) rfl)
  have k_f61 := hts (.fieldLink RX8 61 "ParasolHoursModel" "letterMany" "I") (List.mem_of_getElem? (i := 4) rfl)
  have iX8 : ∀ w ∈ wsX80, w ∈ wsX8_fault := by decide +kernel
  obtain ⟨Q, hQ⟩ : ∃ Q, Q = MQ below (QI D [(ax, .inr (8, [.int m_letterMany, .ref a_text, .int m_readAt', .ref a_told, .ref a_readLaw, .ref a_readNow, .ref a_law, .ref a_now, .ref a_tried, .int m_undoMany, .int m_undoAt, .ref a_undos, .int m_seenMany, .ref a_seenHour, .ref a_seenAt, .ref a_parts, .ref a_partsThen, .int m_keptMany, .ref a_kept])), (a_text, .inl (cI, 200, .inl m_text)), (a_told, .inl (cI, 3, .inl m_told')), (a_readLaw, .inl (cI, 22, .inl m_readLaw')), (a_readNow, .inl (cI, 26, .inl m_readNow'))] rr A) args s 0 0 A := ⟨_, rfl⟩
  rw [← hQ]
  unfold f_X8_fault at hF
  refine lv_aload_n hx hb dX8_fault_0 rfl (lv_at hl 0 rfl) ?_
  refine lv_iconst (v := (0 : Int32)) hx hb dX8_fault_1 (by decide) ?_
  refine va_put (D := D) (ci := 8) (v := .int (0 : Int32)) (ty := .int) (C := RX8) (T := TX8) (N := 19) hx hb hts iX8 tyX8 tyX8_ok nmX8 hown hK hP hD hS 0 rfl rfl 2 (by decide) k_f65 (fun _ h9 => h9) rfl (by decide +kernel) rfl rfl (Nat.le_of_ble_eq_true rfl) dX8_fault_2 (fun H locs hP hD hS => ?_)
  have hP : va_P D vwCl [(ax, .inr (8, [.int m_letterMany, .ref a_text, .int (0 : Int32), .ref a_told, .ref a_readLaw, .ref a_readNow, .ref a_law, .ref a_now, .ref a_tried, .int m_undoMany, .int m_undoAt, .ref a_undos, .int m_seenMany, .ref a_seenHour, .ref a_seenAt, .ref a_parts, .ref a_partsThen, .int m_keptMany, .ref a_kept])), (a_text, .inl (cI, 200, .inl m_text)), (a_told, .inl (cI, 3, .inl m_told)), (a_readLaw, .inl (cI, 22, .inl m_readLaw)), (a_readNow, .inl (cI, 26, .inl m_readNow))] H := hP
  have hD : va_D A [(ax, .inr (8, [.int m_letterMany, .ref a_text, .int (0 : Int32), .ref a_told, .ref a_readLaw, .ref a_readNow, .ref a_law, .ref a_now, .ref a_tried, .int m_undoMany, .int m_undoAt, .ref a_undos, .int m_seenMany, .ref a_seenHour, .ref a_seenAt, .ref a_parts, .ref a_partsThen, .int m_keptMany, .ref a_kept])), (a_text, .inl (cI, 200, .inl m_text)), (a_told, .inl (cI, 3, .inl m_told)), (a_readLaw, .inl (cI, 22, .inl m_readLaw)), (a_readNow, .inl (cI, 26, .inl m_readNow))] := hD
  refine lv_iconst (v := (0 : Int32)) hx hb dX8_fault_5 (by decide) ?_
  refine lv_istore_n (lv' := [(1, .int (0 : Int32)), (0, .ref ax)]) hx hb dX8_fault_6 rfl hl (by decide) rfl (fun ls hl => ?_)
  have hL7 : ∀ (k7 : Int32 → (Nat → Int32) → Option (Int32 × Int32 × (Nat → Int32) × (Nat → Int32) × (Nat → Int32))), (∀ (v1 : Int32) (m_readLaw_2 : (Nat → Int32)) (H : Heap) (locs : List Loc), va_P D vwCl [(ax, .inr (8, [.int m_letterMany, .ref a_text, .int (0 : Int32), .ref a_told, .ref a_readLaw, .ref a_readNow, .ref a_law, .ref a_now, .ref a_tried, .int m_undoMany, .int m_undoAt, .ref a_undos, .int m_seenMany, .ref a_seenHour, .ref a_seenAt, .ref a_parts, .ref a_partsThen, .int m_keptMany, .ref a_kept])), (a_text, .inl (cI, 200, .inl m_text)), (a_told, .inl (cI, 3, .inl m_told)), (a_readLaw, .inl (cI, 22, .inl m_readLaw_2)), (a_readNow, .inl (cI, 26, .inl m_readNow))] H → va_D A [(ax, .inr (8, [.int m_letterMany, .ref a_text, .int (0 : Int32), .ref a_told, .ref a_readLaw, .ref a_readNow, .ref a_law, .ref a_now, .ref a_tried, .int m_undoMany, .int m_undoAt, .ref a_undos, .int m_seenMany, .ref a_seenHour, .ref a_seenAt, .ref a_parts, .ref a_partsThen, .int m_keptMany, .ref a_kept])), (a_text, .inl (cI, 200, .inl m_text)), (a_told, .inl (cI, 3, .inl m_told)), (a_readLaw, .inl (cI, 22, .inl m_readLaw_2)), (a_readNow, .inl (cI, 26, .inl m_readNow))] → va_S A s.heap H locs → ∀ ls : Array Slot, lv_has ls 2 [(0, .ref ax)] → k7 v1 m_readLaw_2 = some (rr, m_readAt', m_told', m_readLaw', m_readNow') → W p l e rm_X8_fault s m args below meth c H locs 0 0 Q (F0 m 26 ls [])) → ∀ (nf7 : Nat) (v1 : Int32) (m_readLaw_2 : (Nat → Int32)) (H : Heap) (locs : List Loc), va_P D vwCl [(ax, .inr (8, [.int m_letterMany, .ref a_text, .int (0 : Int32), .ref a_told, .ref a_readLaw, .ref a_readNow, .ref a_law, .ref a_now, .ref a_tried, .int m_undoMany, .int m_undoAt, .ref a_undos, .int m_seenMany, .ref a_seenHour, .ref a_seenAt, .ref a_parts, .ref a_partsThen, .int m_keptMany, .ref a_kept])), (a_text, .inl (cI, 200, .inl m_text)), (a_told, .inl (cI, 3, .inl m_told)), (a_readLaw, .inl (cI, 22, .inl m_readLaw_2)), (a_readNow, .inl (cI, 26, .inl m_readNow))] H → va_D A [(ax, .inr (8, [.int m_letterMany, .ref a_text, .int (0 : Int32), .ref a_told, .ref a_readLaw, .ref a_readNow, .ref a_law, .ref a_now, .ref a_tried, .int m_undoMany, .int m_undoAt, .ref a_undos, .int m_seenMany, .ref a_seenHour, .ref a_seenAt, .ref a_parts, .ref a_partsThen, .int m_keptMany, .ref a_kept])), (a_text, .inl (cI, 200, .inl m_text)), (a_told, .inl (cI, 3, .inl m_told)), (a_readLaw, .inl (cI, 22, .inl m_readLaw_2)), (a_readNow, .inl (cI, 26, .inl m_readNow))] → va_S A s.heap H locs → ∀ ls : Array Slot, lv_has ls 2 [(1, .int v1), (0, .ref ax)] → f_X8_fault_L7 k7 nf7 v1 m_readLaw_2 = some (rr, m_readAt', m_told', m_readLaw', m_readNow') → W p l e rm_X8_fault s m args below meth c H locs 0 0 Q (F0 m 7 ls []) := by
    intro k7 hk7 nf7
    induction nf7 with
    | zero =>
      intro v1 m_readLaw_2 H locs hP hD hS ls hl hF
      rw [f_X8_fault_L7_0] at hF
      cases hF
    | succ nf7 ih7 =>
      intro v1 m_readLaw_2 H locs hP hD hS ls hl hF
      rw [f_X8_fault_L7_s] at hF
      refine lv_iload_n hx hb dX8_fault_7 rfl (lv_at hl 0 rfl) ?_
      refine lv_bipush (v := (22 : Int32)) hx hb dX8_fault_8 (by decide) ?_
      refine lv_icmp_ge (tgt := 26) hx hb dX8_fault_10 (by decide) (fun c3 => ?_) (fun c3 => ?_)
      · have hF := op_pos c3 hF
        exact hk7 v1 m_readLaw_2 _ _ hP hD hS _ (lv_sub hl [1] rfl) hF
      · have hF := op_neg c3 hF
        refine lv_aload_n hx hb dX8_fault_13 rfl (lv_at hl 1 rfl) ?_
        refine va_get (D := D) (ci := 8) (v := .ref a_readLaw) (C := RX8) (T := TX8) (N := 19) hx hb hts iX8 hown hK hP 0 rfl rfl 4 (by decide) k_f16 (fun _ h9 => h9) rfl dX8_fault_14 ?_
        refine lv_iload_n hx hb dX8_fault_17 rfl (lv_at hl 0 rfl) ?_
        refine lv_iconst (v := (0 : Int32)) hx hb dX8_fault_18 (by decide) ?_
        obtain ⟨o4, hF⟩ := op_ob hF
        refine va_iast hx hb hK hP hD hS 3 0 rfl rfl (okb_in o4) dX8_fault_19 (fun H locs hP hD hS => ?_)
        have hP : va_P D vwCl [(ax, .inr (8, [.int m_letterMany, .ref a_text, .int (0 : Int32), .ref a_told, .ref a_readLaw, .ref a_readNow, .ref a_law, .ref a_now, .ref a_tried, .int m_undoMany, .int m_undoAt, .ref a_undos, .int m_seenMany, .ref a_seenHour, .ref a_seenAt, .ref a_parts, .ref a_partsThen, .int m_keptMany, .ref a_kept])), (a_text, .inl (cI, 200, .inl m_text)), (a_told, .inl (cI, 3, .inl m_told)), (a_readLaw, .inl (cI, 22, .inl (upd m_readLaw_2 v1.toNatClampNeg (0 : Int32)))), (a_readNow, .inl (cI, 26, .inl m_readNow))] H := hP
        have hD : va_D A [(ax, .inr (8, [.int m_letterMany, .ref a_text, .int (0 : Int32), .ref a_told, .ref a_readLaw, .ref a_readNow, .ref a_law, .ref a_now, .ref a_tried, .int m_undoMany, .int m_undoAt, .ref a_undos, .int m_seenMany, .ref a_seenHour, .ref a_seenAt, .ref a_parts, .ref a_partsThen, .int m_keptMany, .ref a_kept])), (a_text, .inl (cI, 200, .inl m_text)), (a_told, .inl (cI, 3, .inl m_told)), (a_readLaw, .inl (cI, 22, .inl (upd m_readLaw_2 v1.toNatClampNeg (0 : Int32)))), (a_readNow, .inl (cI, 26, .inl m_readNow))] := hD
        refine lv_iinc (v := (v1 + (1 : Int32))) (lv' := [(1, .int (v1 + (1 : Int32))), (0, .ref ax)]) hx hb dX8_fault_20 hl (k := 0) rfl (by first | rfl | decide) (by decide) rfl (fun ls hl => ?_)
        refine lv_goto (tgt := 7) hx hb dX8_fault_23 (by decide) ?_
        exact ih7 (v1 + (1 : Int32)) (upd m_readLaw_2 v1.toNatClampNeg (0 : Int32)) _ _ hP hD hS _ (lv_sub hl [0, 1] rfl) hF
  refine hL7 _ (fun v1 m_readLaw_2 H locs hP hD hS ls hl hF => ?_) 20000 (0 : Int32) m_readLaw _ _ hP hD hS _ (lv_sub hl [0, 1] rfl) hF
  refine lv_iconst (v := (0 : Int32)) hx hb dX8_fault_26 (by decide) ?_
  refine lv_istore_n (lv' := [(1, .int (0 : Int32)), (0, .ref ax)]) hx hb dX8_fault_27 rfl hl (by decide) rfl (fun ls hl => ?_)
  have hL28 : ∀ (k28 : Int32 → (Nat → Int32) → Option (Int32 × Int32 × (Nat → Int32) × (Nat → Int32) × (Nat → Int32))), (∀ (v5 : Int32) (m_readNow_6 : (Nat → Int32)) (H : Heap) (locs : List Loc), va_P D vwCl [(ax, .inr (8, [.int m_letterMany, .ref a_text, .int (0 : Int32), .ref a_told, .ref a_readLaw, .ref a_readNow, .ref a_law, .ref a_now, .ref a_tried, .int m_undoMany, .int m_undoAt, .ref a_undos, .int m_seenMany, .ref a_seenHour, .ref a_seenAt, .ref a_parts, .ref a_partsThen, .int m_keptMany, .ref a_kept])), (a_text, .inl (cI, 200, .inl m_text)), (a_told, .inl (cI, 3, .inl m_told)), (a_readLaw, .inl (cI, 22, .inl m_readLaw_2)), (a_readNow, .inl (cI, 26, .inl m_readNow_6))] H → va_D A [(ax, .inr (8, [.int m_letterMany, .ref a_text, .int (0 : Int32), .ref a_told, .ref a_readLaw, .ref a_readNow, .ref a_law, .ref a_now, .ref a_tried, .int m_undoMany, .int m_undoAt, .ref a_undos, .int m_seenMany, .ref a_seenHour, .ref a_seenAt, .ref a_parts, .ref a_partsThen, .int m_keptMany, .ref a_kept])), (a_text, .inl (cI, 200, .inl m_text)), (a_told, .inl (cI, 3, .inl m_told)), (a_readLaw, .inl (cI, 22, .inl m_readLaw_2)), (a_readNow, .inl (cI, 26, .inl m_readNow_6))] → va_S A s.heap H locs → ∀ ls : Array Slot, lv_has ls 2 [(0, .ref ax)] → k28 v5 m_readNow_6 = some (rr, m_readAt', m_told', m_readLaw', m_readNow') → W p l e rm_X8_fault s m args below meth c H locs 0 0 Q (F0 m 47 ls [])) → ∀ (nf28 : Nat) (v5 : Int32) (m_readNow_6 : (Nat → Int32)) (H : Heap) (locs : List Loc), va_P D vwCl [(ax, .inr (8, [.int m_letterMany, .ref a_text, .int (0 : Int32), .ref a_told, .ref a_readLaw, .ref a_readNow, .ref a_law, .ref a_now, .ref a_tried, .int m_undoMany, .int m_undoAt, .ref a_undos, .int m_seenMany, .ref a_seenHour, .ref a_seenAt, .ref a_parts, .ref a_partsThen, .int m_keptMany, .ref a_kept])), (a_text, .inl (cI, 200, .inl m_text)), (a_told, .inl (cI, 3, .inl m_told)), (a_readLaw, .inl (cI, 22, .inl m_readLaw_2)), (a_readNow, .inl (cI, 26, .inl m_readNow_6))] H → va_D A [(ax, .inr (8, [.int m_letterMany, .ref a_text, .int (0 : Int32), .ref a_told, .ref a_readLaw, .ref a_readNow, .ref a_law, .ref a_now, .ref a_tried, .int m_undoMany, .int m_undoAt, .ref a_undos, .int m_seenMany, .ref a_seenHour, .ref a_seenAt, .ref a_parts, .ref a_partsThen, .int m_keptMany, .ref a_kept])), (a_text, .inl (cI, 200, .inl m_text)), (a_told, .inl (cI, 3, .inl m_told)), (a_readLaw, .inl (cI, 22, .inl m_readLaw_2)), (a_readNow, .inl (cI, 26, .inl m_readNow_6))] → va_S A s.heap H locs → ∀ ls : Array Slot, lv_has ls 2 [(1, .int v5), (0, .ref ax)] → f_X8_fault_L28 k28 nf28 v5 m_readNow_6 = some (rr, m_readAt', m_told', m_readLaw', m_readNow') → W p l e rm_X8_fault s m args below meth c H locs 0 0 Q (F0 m 28 ls []) := by
    intro k28 hk28 nf28
    induction nf28 with
    | zero =>
      intro v5 m_readNow_6 H locs hP hD hS ls hl hF
      rw [f_X8_fault_L28_0] at hF
      cases hF
    | succ nf28 ih28 =>
      intro v5 m_readNow_6 H locs hP hD hS ls hl hF
      rw [f_X8_fault_L28_s] at hF
      refine lv_iload_n hx hb dX8_fault_28 rfl (lv_at hl 0 rfl) ?_
      refine lv_bipush (v := (26 : Int32)) hx hb dX8_fault_29 (by decide) ?_
      refine lv_icmp_ge (tgt := 47) hx hb dX8_fault_31 (by decide) (fun c7 => ?_) (fun c7 => ?_)
      · have hF := op_pos c7 hF
        exact hk28 v5 m_readNow_6 _ _ hP hD hS _ (lv_sub hl [1] rfl) hF
      · have hF := op_neg c7 hF
        refine lv_aload_n hx hb dX8_fault_34 rfl (lv_at hl 1 rfl) ?_
        refine va_get (D := D) (ci := 8) (v := .ref a_readNow) (C := RX8) (T := TX8) (N := 19) hx hb hts iX8 hown hK hP 0 rfl rfl 5 (by decide) k_f19 (fun _ h9 => h9) rfl dX8_fault_35 ?_
        refine lv_iload_n hx hb dX8_fault_38 rfl (lv_at hl 0 rfl) ?_
        refine lv_iconst (v := (0 : Int32)) hx hb dX8_fault_39 (by decide) ?_
        obtain ⟨o8, hF⟩ := op_ob hF
        refine va_iast hx hb hK hP hD hS 4 0 rfl rfl (okb_in o8) dX8_fault_40 (fun H locs hP hD hS => ?_)
        have hP : va_P D vwCl [(ax, .inr (8, [.int m_letterMany, .ref a_text, .int (0 : Int32), .ref a_told, .ref a_readLaw, .ref a_readNow, .ref a_law, .ref a_now, .ref a_tried, .int m_undoMany, .int m_undoAt, .ref a_undos, .int m_seenMany, .ref a_seenHour, .ref a_seenAt, .ref a_parts, .ref a_partsThen, .int m_keptMany, .ref a_kept])), (a_text, .inl (cI, 200, .inl m_text)), (a_told, .inl (cI, 3, .inl m_told)), (a_readLaw, .inl (cI, 22, .inl m_readLaw_2)), (a_readNow, .inl (cI, 26, .inl (upd m_readNow_6 v5.toNatClampNeg (0 : Int32))))] H := hP
        have hD : va_D A [(ax, .inr (8, [.int m_letterMany, .ref a_text, .int (0 : Int32), .ref a_told, .ref a_readLaw, .ref a_readNow, .ref a_law, .ref a_now, .ref a_tried, .int m_undoMany, .int m_undoAt, .ref a_undos, .int m_seenMany, .ref a_seenHour, .ref a_seenAt, .ref a_parts, .ref a_partsThen, .int m_keptMany, .ref a_kept])), (a_text, .inl (cI, 200, .inl m_text)), (a_told, .inl (cI, 3, .inl m_told)), (a_readLaw, .inl (cI, 22, .inl m_readLaw_2)), (a_readNow, .inl (cI, 26, .inl (upd m_readNow_6 v5.toNatClampNeg (0 : Int32))))] := hD
        refine lv_iinc (v := (v5 + (1 : Int32))) (lv' := [(1, .int (v5 + (1 : Int32))), (0, .ref ax)]) hx hb dX8_fault_41 hl (k := 0) rfl (by first | rfl | decide) (by decide) rfl (fun ls hl => ?_)
        refine lv_goto (tgt := 28) hx hb dX8_fault_44 (by decide) ?_
        exact ih28 (v5 + (1 : Int32)) (upd m_readNow_6 v5.toNatClampNeg (0 : Int32)) _ _ hP hD hS _ (lv_sub hl [0, 1] rfl) hF
  refine hL28 _ (fun v5 m_readNow_6 H locs hP hD hS ls hl hF => ?_) 20000 (0 : Int32) m_readNow _ _ hP hD hS _ (lv_sub hl [0, 1] rfl) hF
  refine lv_aload_n hx hb dX8_fault_47 rfl (lv_at hl 0 rfl) ?_
  refine va_get (D := D) (ci := 8) (v := .ref a_readLaw) (C := RX8) (T := TX8) (N := 19) hx hb hts iX8 hown hK hP 0 rfl rfl 4 (by decide) k_f16 (fun _ h9 => h9) rfl dX8_fault_48 ?_
  refine lv_iconst (v := (0 : Int32)) hx hb dX8_fault_51 (by decide) ?_
  refine lv_bipush (v := (6 : Int32)) hx hb dX8_fault_52 (by decide) ?_
  refine va_iast hx hb hK hP hD hS 3 0 rfl rfl (okb_in (by decide)) dX8_fault_54 (fun H locs hP hD hS => ?_)
  have hP : va_P D vwCl [(ax, .inr (8, [.int m_letterMany, .ref a_text, .int (0 : Int32), .ref a_told, .ref a_readLaw, .ref a_readNow, .ref a_law, .ref a_now, .ref a_tried, .int m_undoMany, .int m_undoAt, .ref a_undos, .int m_seenMany, .ref a_seenHour, .ref a_seenAt, .ref a_parts, .ref a_partsThen, .int m_keptMany, .ref a_kept])), (a_text, .inl (cI, 200, .inl m_text)), (a_told, .inl (cI, 3, .inl m_told)), (a_readLaw, .inl (cI, 22, .inl (upd m_readLaw_2 (0 : Int32).toNatClampNeg (6 : Int32)))), (a_readNow, .inl (cI, 26, .inl m_readNow_6))] H := hP
  have hD : va_D A [(ax, .inr (8, [.int m_letterMany, .ref a_text, .int (0 : Int32), .ref a_told, .ref a_readLaw, .ref a_readNow, .ref a_law, .ref a_now, .ref a_tried, .int m_undoMany, .int m_undoAt, .ref a_undos, .int m_seenMany, .ref a_seenHour, .ref a_seenAt, .ref a_parts, .ref a_partsThen, .int m_keptMany, .ref a_kept])), (a_text, .inl (cI, 200, .inl m_text)), (a_told, .inl (cI, 3, .inl m_told)), (a_readLaw, .inl (cI, 22, .inl (upd m_readLaw_2 (0 : Int32).toNatClampNeg (6 : Int32)))), (a_readNow, .inl (cI, 26, .inl m_readNow_6))] := hD
  have hL55 : ∀ (k55 : Int32 → (Nat → Int32) → (Nat → Int32) → (Nat → Int32) → Option (Int32 × Int32 × (Nat → Int32) × (Nat → Int32) × (Nat → Int32))), (∀ (m_readAt_9 : Int32) (m_told_10 : (Nat → Int32)) (m_readLaw_11 : (Nat → Int32)) (m_readNow_12 : (Nat → Int32)) (H : Heap) (locs : List Loc), va_P D vwCl [(ax, .inr (8, [.int m_letterMany, .ref a_text, .int m_readAt_9, .ref a_told, .ref a_readLaw, .ref a_readNow, .ref a_law, .ref a_now, .ref a_tried, .int m_undoMany, .int m_undoAt, .ref a_undos, .int m_seenMany, .ref a_seenHour, .ref a_seenAt, .ref a_parts, .ref a_partsThen, .int m_keptMany, .ref a_kept])), (a_text, .inl (cI, 200, .inl m_text)), (a_told, .inl (cI, 3, .inl m_told_10)), (a_readLaw, .inl (cI, 22, .inl m_readLaw_11)), (a_readNow, .inl (cI, 26, .inl m_readNow_12))] H → va_D A [(ax, .inr (8, [.int m_letterMany, .ref a_text, .int m_readAt_9, .ref a_told, .ref a_readLaw, .ref a_readNow, .ref a_law, .ref a_now, .ref a_tried, .int m_undoMany, .int m_undoAt, .ref a_undos, .int m_seenMany, .ref a_seenHour, .ref a_seenAt, .ref a_parts, .ref a_partsThen, .int m_keptMany, .ref a_kept])), (a_text, .inl (cI, 200, .inl m_text)), (a_told, .inl (cI, 3, .inl m_told_10)), (a_readLaw, .inl (cI, 22, .inl m_readLaw_11)), (a_readNow, .inl (cI, 26, .inl m_readNow_12))] → va_S A s.heap H locs → ∀ ls : Array Slot, lv_has ls 2 [] → k55 m_readAt_9 m_told_10 m_readLaw_11 m_readNow_12 = some (rr, m_readAt', m_told', m_readLaw', m_readNow') → W p l e rm_X8_fault s m args below meth c H locs 0 0 Q (F0 m 83 ls [])) → ∀ (nf55 : Nat) (m_readAt_9 : Int32) (m_told_10 : (Nat → Int32)) (m_readLaw_11 : (Nat → Int32)) (m_readNow_12 : (Nat → Int32)) (H : Heap) (locs : List Loc), va_P D vwCl [(ax, .inr (8, [.int m_letterMany, .ref a_text, .int m_readAt_9, .ref a_told, .ref a_readLaw, .ref a_readNow, .ref a_law, .ref a_now, .ref a_tried, .int m_undoMany, .int m_undoAt, .ref a_undos, .int m_seenMany, .ref a_seenHour, .ref a_seenAt, .ref a_parts, .ref a_partsThen, .int m_keptMany, .ref a_kept])), (a_text, .inl (cI, 200, .inl m_text)), (a_told, .inl (cI, 3, .inl m_told_10)), (a_readLaw, .inl (cI, 22, .inl m_readLaw_11)), (a_readNow, .inl (cI, 26, .inl m_readNow_12))] H → va_D A [(ax, .inr (8, [.int m_letterMany, .ref a_text, .int m_readAt_9, .ref a_told, .ref a_readLaw, .ref a_readNow, .ref a_law, .ref a_now, .ref a_tried, .int m_undoMany, .int m_undoAt, .ref a_undos, .int m_seenMany, .ref a_seenHour, .ref a_seenAt, .ref a_parts, .ref a_partsThen, .int m_keptMany, .ref a_kept])), (a_text, .inl (cI, 200, .inl m_text)), (a_told, .inl (cI, 3, .inl m_told_10)), (a_readLaw, .inl (cI, 22, .inl m_readLaw_11)), (a_readNow, .inl (cI, 26, .inl m_readNow_12))] → va_S A s.heap H locs → ∀ ls : Array Slot, lv_has ls 2 [(0, .ref ax)] → f_X8_fault_L55 m_letterMany m_text k55 nf55 m_readAt_9 m_told_10 m_readLaw_11 m_readNow_12 = some (rr, m_readAt', m_told', m_readLaw', m_readNow') → W p l e rm_X8_fault s m args below meth c H locs 0 0 Q (F0 m 55 ls []) := by
    intro k55 hk55 nf55
    induction nf55 with
    | zero =>
      intro m_readAt_9 m_told_10 m_readLaw_11 m_readNow_12 H locs hP hD hS ls hl hF
      rw [f_X8_fault_L55_0] at hF
      cases hF
    | succ nf55 ih55 =>
      intro m_readAt_9 m_told_10 m_readLaw_11 m_readNow_12 H locs hP hD hS ls hl hF
      rw [f_X8_fault_L55_s] at hF
      refine lv_aload_n hx hb dX8_fault_55 rfl (lv_at hl 0 rfl) ?_
      refine va_get (D := D) (ci := 8) (v := .int m_readAt_9) (C := RX8) (T := TX8) (N := 19) hx hb hts iX8 hown hK hP 0 rfl rfl 2 (by decide) k_f65 (fun _ h9 => h9) rfl dX8_fault_56 ?_
      refine lv_aload_n hx hb dX8_fault_59 rfl (lv_at hl 0 rfl) ?_
      refine va_get (D := D) (ci := 8) (v := .int m_letterMany) (C := RX8) (T := TX8) (N := 19) hx hb hts iX8 hown hK hP 0 rfl rfl 0 (by decide) k_f61 (fun _ h9 => h9) rfl dX8_fault_60 ?_
      refine lv_icmp_ge (tgt := 83) hx hb dX8_fault_63 (by decide) (fun c13 => ?_) (fun c13 => ?_)
      · have hF := op_pos c13 hF
        exact hk55 m_readAt_9 m_told_10 m_readLaw_11 m_readNow_12 _ _ hP hD hS _ (lv_sub hl [] rfl) hF
      · have hF := op_neg c13 hF
        refine lv_aload_n hx hb dX8_fault_66 rfl (lv_at hl 0 rfl) ?_
        refine va_get (D := D) (ci := 8) (v := .int m_readAt_9) (C := RX8) (T := TX8) (N := 19) hx hb hts iX8 hown hK hP 0 rfl rfl 2 (by decide) k_f65 (fun _ h9 => h9) rfl dX8_fault_67 ?_
        refine lv_istore_n (lv' := [(1, .int m_readAt_9), (0, .ref ax)]) hx hb dX8_fault_70 rfl hl (by decide) rfl (fun ls hl => ?_)
        refine lv_aload_n hx hb dX8_fault_71 rfl (lv_at hl 1 rfl) ?_
        obtain ⟨⟨r14, m_readAt_15, m_told_16, m_readLaw_17, m_readNow_18⟩, hb19, hF⟩ := op_bind hF
        refine xVi (As := []) (rest := []) hC hP hD hS [0, 1, 2, 3, 4] (c_X8_readsItem l D cI cC cM ax a_text a_told a_readLaw a_readNow a_law a_now a_tried a_undos a_seenHour a_seenAt a_parts a_partsThen a_kept m_letterMany m_readAt_9 m_undoMany m_undoAt m_seenMany m_keptMany m_text m_told_10 m_readLaw_11 m_readNow_12 r14 m_readAt_15 m_told_16 m_readLaw_17 m_readNow_18 hb19) (cwV 0 hts gX8_fault_X8_readsItem rfl rfl rfl ⟨rfl, pd_X8_readsItem⟩ ⟨Nat.le_of_ble_eq_true rfl, Nat.le_of_ble_eq_true rfl⟩) rfl rfl rfl 0 8 rfl rfl rfl rfl hl.1 rfl (Nat.le_of_ble_eq_true rfl) dX8_fault_72 ⟨Nat.zero_le _, Nat.zero_le _⟩ (fun H locs hP hD hS => ?_)
        have hP : va_P D vwCl [(ax, .inr (8, [.int m_letterMany, .ref a_text, .int m_readAt_15, .ref a_told, .ref a_readLaw, .ref a_readNow, .ref a_law, .ref a_now, .ref a_tried, .int m_undoMany, .int m_undoAt, .ref a_undos, .int m_seenMany, .ref a_seenHour, .ref a_seenAt, .ref a_parts, .ref a_partsThen, .int m_keptMany, .ref a_kept])), (a_text, .inl (cI, 200, .inl m_text)), (a_told, .inl (cI, 3, .inl m_told_16)), (a_readLaw, .inl (cI, 22, .inl m_readLaw_17)), (a_readNow, .inl (cI, 26, .inl m_readNow_18))] H := hP
        have hD : va_D A [(ax, .inr (8, [.int m_letterMany, .ref a_text, .int m_readAt_15, .ref a_told, .ref a_readLaw, .ref a_readNow, .ref a_law, .ref a_now, .ref a_tried, .int m_undoMany, .int m_undoAt, .ref a_undos, .int m_seenMany, .ref a_seenHour, .ref a_seenAt, .ref a_parts, .ref a_partsThen, .int m_keptMany, .ref a_kept])), (a_text, .inl (cI, 200, .inl m_text)), (a_told, .inl (cI, 3, .inl m_told_16)), (a_readLaw, .inl (cI, 22, .inl m_readLaw_17)), (a_readNow, .inl (cI, 26, .inl m_readNow_18))] := hD
        refine lv_if_ne (tgt := 80) hx hb dX8_fault_75 (by decide) (fun c20 => ?_) (fun c20 => ?_)
        · have hF := op_neg c20 hF
          refine lv_goto (tgt := 55) hx hb dX8_fault_80 (by decide) ?_
          exact ih55 m_readAt_15 m_told_16 m_readLaw_17 m_readNow_18 _ _ hP hD hS _ (lv_sub hl [1] rfl) hF
        · have hF := op_pos c20 hF
          refine lv_iload_n hx hb dX8_fault_78 rfl (lv_at hl 0 rfl) ?_
          cases hF
          rw [hQ]
          exact xri hC hP hS dX8_fault_79
  refine hL55 _ (fun m_readAt_9 m_told_10 m_readLaw_11 m_readNow_12 H locs hP hD hS ls hl hF => ?_) 20000 (0 : Int32) m_told (upd m_readLaw_2 (0 : Int32).toNatClampNeg (6 : Int32)) m_readNow_6 _ _ hP hD hS _ (lv_sub hl [0] rfl) hF
  refine lv_bipush (v := (-4 : Int32)) hx hb dX8_fault_83 (by decide) ?_
  cases hF
  rw [hQ]
  exact xri hC hP hS dX8_fault_85

def f_X8_lay_L32 (m_readLaw_4 : (Nat → Int32)) (k32 : Int32 → (Nat → Int32) → Option (Int32 × Int32 × Int32 × Int32 × Int32 × (Nat → Int32) × (Nat → Int32) × (Nat → Int32) × (Nat → Int32) × (Nat → Int32))) : Nat → Int32 → (Nat → Int32) → Option (Int32 × Int32 × Int32 × Int32 × Int32 × (Nat → Int32) × (Nat → Int32) × (Nat → Int32) × (Nat → Int32) × (Nat → Int32))
  | 0, _, _ => none
  | nf32 + 1, v10, m_law_11 => (if (22 : Int32) ≤ v10 then (k32 v10 m_law_11) else (if okb v10 22 = true then (f_X8_lay_L32 m_readLaw_4 k32 nf32 (v10 + (1 : Int32)) (upd m_law_11 v10.toNatClampNeg (m_readLaw_4 v10.toNatClampNeg))) else none))
theorem f_X8_lay_L32_0 (m_readLaw_4 : (Nat → Int32)) (k32 : Int32 → (Nat → Int32) → Option (Int32 × Int32 × Int32 × Int32 × Int32 × (Nat → Int32) × (Nat → Int32) × (Nat → Int32) × (Nat → Int32) × (Nat → Int32))) (v10 : Int32) (m_law_11 : (Nat → Int32)) : f_X8_lay_L32 m_readLaw_4 k32 0 v10 m_law_11 = none := rfl
theorem f_X8_lay_L32_s (m_readLaw_4 : (Nat → Int32)) (k32 : Int32 → (Nat → Int32) → Option (Int32 × Int32 × Int32 × Int32 × Int32 × (Nat → Int32) × (Nat → Int32) × (Nat → Int32) × (Nat → Int32) × (Nat → Int32))) (nf32 : Nat) (v10 : Int32) (m_law_11 : (Nat → Int32)) : f_X8_lay_L32 m_readLaw_4 k32 (nf32 + 1) v10 m_law_11 = (if (22 : Int32) ≤ v10 then (k32 v10 m_law_11) else (if okb v10 22 = true then (f_X8_lay_L32 m_readLaw_4 k32 nf32 (v10 + (1 : Int32)) (upd m_law_11 v10.toNatClampNeg (m_readLaw_4 v10.toNatClampNeg))) else none)) := rfl

def f_X8_lay_L58 (m_readNow_5 : (Nat → Int32)) (k58 : Int32 → (Nat → Int32) → Option (Int32 × Int32 × Int32 × Int32 × Int32 × (Nat → Int32) × (Nat → Int32) × (Nat → Int32) × (Nat → Int32) × (Nat → Int32))) : Nat → Int32 → (Nat → Int32) → Option (Int32 × Int32 × Int32 × Int32 × Int32 × (Nat → Int32) × (Nat → Int32) × (Nat → Int32) × (Nat → Int32) × (Nat → Int32))
  | 0, _, _ => none
  | nf58 + 1, v14, m_now_15 => (if (26 : Int32) ≤ v14 then (k58 v14 m_now_15) else (if okb v14 26 = true then (f_X8_lay_L58 m_readNow_5 k58 nf58 (v14 + (1 : Int32)) (upd m_now_15 v14.toNatClampNeg (m_readNow_5 v14.toNatClampNeg))) else none))
theorem f_X8_lay_L58_0 (m_readNow_5 : (Nat → Int32)) (k58 : Int32 → (Nat → Int32) → Option (Int32 × Int32 × Int32 × Int32 × Int32 × (Nat → Int32) × (Nat → Int32) × (Nat → Int32) × (Nat → Int32) × (Nat → Int32))) (v14 : Int32) (m_now_15 : (Nat → Int32)) : f_X8_lay_L58 m_readNow_5 k58 0 v14 m_now_15 = none := rfl
theorem f_X8_lay_L58_s (m_readNow_5 : (Nat → Int32)) (k58 : Int32 → (Nat → Int32) → Option (Int32 × Int32 × Int32 × Int32 × Int32 × (Nat → Int32) × (Nat → Int32) × (Nat → Int32) × (Nat → Int32) × (Nat → Int32))) (nf58 : Nat) (v14 : Int32) (m_now_15 : (Nat → Int32)) : f_X8_lay_L58 m_readNow_5 k58 (nf58 + 1) v14 m_now_15 = (if (26 : Int32) ≤ v14 then (k58 v14 m_now_15) else (if okb v14 26 = true then (f_X8_lay_L58 m_readNow_5 k58 nf58 (v14 + (1 : Int32)) (upd m_now_15 v14.toNatClampNeg (m_readNow_5 v14.toNatClampNeg))) else none)) := rfl

def f_X8_lay_L84  (k84 : Int32 → (Nat → Int32) → Option (Int32 × Int32 × Int32 × Int32 × Int32 × (Nat → Int32) × (Nat → Int32) × (Nat → Int32) × (Nat → Int32) × (Nat → Int32))) : Nat → Int32 → (Nat → Int32) → Option (Int32 × Int32 × Int32 × Int32 × Int32 × (Nat → Int32) × (Nat → Int32) × (Nat → Int32) × (Nat → Int32) × (Nat → Int32))
  | 0, _, _ => none
  | nf84 + 1, v18, m_now_19 => (if (5 : Int32) ≤ v18 then (k84 v18 m_now_19) else (if okb ((21 : Int32) + v18) 26 = true then (f_X8_lay_L84 k84 nf84 (v18 + (1 : Int32)) (upd m_now_19 ((21 : Int32) + v18).toNatClampNeg (-4 : Int32))) else none))
theorem f_X8_lay_L84_0  (k84 : Int32 → (Nat → Int32) → Option (Int32 × Int32 × Int32 × Int32 × Int32 × (Nat → Int32) × (Nat → Int32) × (Nat → Int32) × (Nat → Int32) × (Nat → Int32))) (v18 : Int32) (m_now_19 : (Nat → Int32)) : f_X8_lay_L84 k84 0 v18 m_now_19 = none := rfl
theorem f_X8_lay_L84_s  (k84 : Int32 → (Nat → Int32) → Option (Int32 × Int32 × Int32 × Int32 × Int32 × (Nat → Int32) × (Nat → Int32) × (Nat → Int32) × (Nat → Int32) × (Nat → Int32))) (nf84 : Nat) (v18 : Int32) (m_now_19 : (Nat → Int32)) : f_X8_lay_L84 k84 (nf84 + 1) v18 m_now_19 = (if (5 : Int32) ≤ v18 then (k84 v18 m_now_19) else (if okb ((21 : Int32) + v18) 26 = true then (f_X8_lay_L84 k84 nf84 (v18 + (1 : Int32)) (upd m_now_19 ((21 : Int32) + v18).toNatClampNeg (-4 : Int32))) else none)) := rfl

def f_X8_lay (m_letterMany : Int32) (m_undoMany : Int32) (m_seenMany : Int32) (m_keptMany : Int32) (m_text : (Nat → Int32)) (m_told : (Nat → Int32)) (m_readLaw : (Nat → Int32)) (m_readNow : (Nat → Int32)) (m_law : (Nat → Int32)) (m_now : (Nat → Int32)) : Option (Int32 × Int32 × Int32 × Int32 × Int32 × (Nat → Int32) × (Nat → Int32) × (Nat → Int32) × (Nat → Int32) × (Nat → Int32)) := (Option.bind (f_X8_fault m_letterMany m_text m_told m_readLaw m_readNow) fun (r1, m_readAt_2, m_told_3, m_readLaw_4, m_readNow_5) => (if r1 = (-4 : Int32) then (if (m_readLaw_4 (1 : Int32).toNatClampNeg) = 0 then (some ((-2 : Int32), m_readAt_2, m_undoMany, m_seenMany, m_keptMany, m_told_3, m_readLaw_4, m_readNow_5, m_law, m_now)) else (if (m_readLaw_4 (2 : Int32).toNatClampNeg) = 0 then (some ((-2 : Int32), m_readAt_2, m_undoMany, m_seenMany, m_keptMany, m_told_3, m_readLaw_4, m_readNow_5, m_law, m_now)) else (f_X8_lay_L32 m_readLaw_4 (fun (v10 : Int32) (m_law_11 : (Nat → Int32)) => (f_X8_lay_L58 m_readNow_5 (fun (v14 : Int32) (m_now_15 : (Nat → Int32)) => (f_X8_lay_L84 (fun (v18 : Int32) (m_now_19 : (Nat → Int32)) => (some ((m_law_11 (2 : Int32).toNatClampNeg), m_readAt_2, (0 : Int32), (0 : Int32), (0 : Int32), m_told_3, m_readLaw_4, m_readNow_5, m_law_11, m_now_19))) 20000 (0 : Int32) m_now_15)) 20000 (0 : Int32) m_now)) 20000 (0 : Int32) m_law))) else (some ((-2 : Int32), m_readAt_2, m_undoMany, m_seenMany, m_keptMany, m_told_3, m_readLaw_4, m_readNow_5, m_law, m_now))))

def rm_X8_lay : Room := { frames := 6, cells := 0, slots := 0, locals := 128 }

theorem pd_X8_lay : yX8_lay.cls ≠ "java/lang/invoke/MethodHandle" ∧ yX8_lay.cls ≠ "java/lang/invoke/VarHandle" ∧ (parseMethodDescriptor yX8_lay.desc).map (fun d => d.parameters.length) = some 0 := by decide +kernel

set_option maxHeartbeats 4000000 in
set_option maxRecDepth 100000 in
theorem c_X8_lay (l : Launch) (D : va_G) (cI cC cM : ClassId) (ax a_text a_told a_readLaw a_readNow a_law a_now a_tried a_undos a_seenHour a_seenAt a_parts a_partsThen a_kept : Nat) (m_letterMany : Int32) (m_readAt : Int32) (m_undoMany : Int32) (m_undoAt : Int32) (m_seenMany : Int32) (m_keptMany : Int32) (m_text : (Nat → Int32)) (m_told : (Nat → Int32)) (m_readLaw : (Nat → Int32)) (m_readNow : (Nat → Int32)) (m_law : (Nat → Int32)) (m_now : (Nat → Int32)) (rr : Int32) (m_readAt' : Int32) (m_undoMany' : Int32) (m_seenMany' : Int32) (m_keptMany' : Int32) (m_told' : (Nat → Int32)) (m_readLaw' : (Nat → Int32)) (m_readNow' : (Nat → Int32)) (m_law' : (Nat → Int32)) (m_now' : (Nat → Int32)) (hF : f_X8_lay m_letterMany m_undoMany m_seenMany m_keptMany m_text m_told m_readLaw m_readNow m_law m_now = some (rr, m_readAt', m_undoMany', m_seenMany', m_keptMany', m_told', m_readLaw', m_readNow', m_law', m_now')) : CI l D cI cC cM yX8_lay wsX8_lay rm_X8_lay [.ref ax] [(ax, .inr (8, [.int m_letterMany, .ref a_text, .int m_readAt, .ref a_told, .ref a_readLaw, .ref a_readNow, .ref a_law, .ref a_now, .ref a_tried, .int m_undoMany, .int m_undoAt, .ref a_undos, .int m_seenMany, .ref a_seenHour, .ref a_seenAt, .ref a_parts, .ref a_partsThen, .int m_keptMany, .ref a_kept])), (a_text, .inl (cI, 200, .inl m_text)), (a_told, .inl (cI, 3, .inl m_told)), (a_readLaw, .inl (cI, 22, .inl m_readLaw)), (a_readNow, .inl (cI, 26, .inl m_readNow)), (a_law, .inl (cI, 22, .inl m_law)), (a_now, .inl (cI, 26, .inl m_now))] [(ax, .inr (8, [.int m_letterMany, .ref a_text, .int m_readAt', .ref a_told, .ref a_readLaw, .ref a_readNow, .ref a_law, .ref a_now, .ref a_tried, .int m_undoMany', .int m_undoAt, .ref a_undos, .int m_seenMany', .ref a_seenHour, .ref a_seenAt, .ref a_parts, .ref a_partsThen, .int m_keptMany', .ref a_kept])), (a_text, .inl (cI, 200, .inl m_text)), (a_told, .inl (cI, 3, .inl m_told')), (a_readLaw, .inl (cI, 22, .inl m_readLaw')), (a_readNow, .inl (cI, 26, .inl m_readNow')), (a_law, .inl (cI, 22, .inl m_law')), (a_now, .inl (cI, 26, .inl m_now'))] rr := by
  refine CI.of (cc := cX8_lay) (nL := 2) (ret := (some .int)) (by decide) rfl (Nat.le_of_ble_eq_true rfl) ?_
  intro p e s m args below meth c A hC hP hD hS ls hl
  obtain ⟨hx, hb, hml, hown, hts, hr, hlk, hG, hA⟩ := id hC
  have hown : s.vm.findClass RX8 = some m.cls := hown
  have hK := hG.1
  have hl : lv_has ls 2 [(0, .ref ax)] := hl
  have k_f16 := hts (.fieldLink RX8 16 "ParasolHoursModel" "readLaw" "[I") (List.mem_of_getElem? (i := 1) rfl)
  have k_f22 := hts (.fieldLink RX8 22 "ParasolHoursModel" "law" "[I") (List.mem_of_getElem? (i := 2) rfl)
  have k_f25 := hts (.fieldLink RX8 25 "ParasolHoursModel" "now" "[I") (List.mem_of_getElem? (i := 3) rfl)
  have k_f19 := hts (.fieldLink RX8 19 "ParasolHoursModel" "readNow" "[I") (List.mem_of_getElem? (i := 4) rfl)
  have k_f99 := hts (.fieldLink RX8 99 "ParasolHoursModel" "undoMany" "I") (List.mem_of_getElem? (i := 5) rfl)
  have k_f102 := hts (.fieldLink RX8 102 "ParasolHoursModel" "keptMany" "I") (List.mem_of_getElem? (i := 6) rfl)
  have k_f105 := hts (.fieldLink RX8 105 "ParasolHoursModel" "seenMany" "I") (List.mem_of_getElem? (i := 7) rfl)
  have iX8 : ∀ w ∈ wsX80, w ∈ wsX8_lay := by decide +kernel
  obtain ⟨Q, hQ⟩ : ∃ Q, Q = MQ below (QI D [(ax, .inr (8, [.int m_letterMany, .ref a_text, .int m_readAt', .ref a_told, .ref a_readLaw, .ref a_readNow, .ref a_law, .ref a_now, .ref a_tried, .int m_undoMany', .int m_undoAt, .ref a_undos, .int m_seenMany', .ref a_seenHour, .ref a_seenAt, .ref a_parts, .ref a_partsThen, .int m_keptMany', .ref a_kept])), (a_text, .inl (cI, 200, .inl m_text)), (a_told, .inl (cI, 3, .inl m_told')), (a_readLaw, .inl (cI, 22, .inl m_readLaw')), (a_readNow, .inl (cI, 26, .inl m_readNow')), (a_law, .inl (cI, 22, .inl m_law')), (a_now, .inl (cI, 26, .inl m_now'))] rr A) args s 0 0 A := ⟨_, rfl⟩
  rw [← hQ]
  unfold f_X8_lay at hF
  refine lv_aload_n hx hb dX8_lay_0 rfl (lv_at hl 0 rfl) ?_
  obtain ⟨⟨r1, m_readAt_2, m_told_3, m_readLaw_4, m_readNow_5⟩, hb6, hF⟩ := op_bind hF
  refine xVi (As := []) (rest := []) hC hP hD hS [0, 1, 2, 3, 4] (c_X8_fault l D cI cC cM ax a_text a_told a_readLaw a_readNow a_law a_now a_tried a_undos a_seenHour a_seenAt a_parts a_partsThen a_kept m_letterMany m_readAt m_undoMany m_undoAt m_seenMany m_keptMany m_text m_told m_readLaw m_readNow r1 m_readAt_2 m_told_3 m_readLaw_4 m_readNow_5 hb6) (cwV 0 hts gX8_lay_X8_fault rfl rfl rfl ⟨rfl, pd_X8_fault⟩ ⟨Nat.le_of_ble_eq_true rfl, Nat.le_of_ble_eq_true rfl⟩) rfl rfl rfl 0 8 rfl rfl rfl rfl hl.1 rfl (Nat.le_of_ble_eq_true rfl) dX8_lay_1 ⟨Nat.zero_le _, Nat.zero_le _⟩ (fun H locs hP hD hS => ?_)
  have hP : va_P D vwCl [(ax, .inr (8, [.int m_letterMany, .ref a_text, .int m_readAt_2, .ref a_told, .ref a_readLaw, .ref a_readNow, .ref a_law, .ref a_now, .ref a_tried, .int m_undoMany, .int m_undoAt, .ref a_undos, .int m_seenMany, .ref a_seenHour, .ref a_seenAt, .ref a_parts, .ref a_partsThen, .int m_keptMany, .ref a_kept])), (a_text, .inl (cI, 200, .inl m_text)), (a_told, .inl (cI, 3, .inl m_told_3)), (a_readLaw, .inl (cI, 22, .inl m_readLaw_4)), (a_readNow, .inl (cI, 26, .inl m_readNow_5)), (a_law, .inl (cI, 22, .inl m_law)), (a_now, .inl (cI, 26, .inl m_now))] H := hP
  have hD : va_D A [(ax, .inr (8, [.int m_letterMany, .ref a_text, .int m_readAt_2, .ref a_told, .ref a_readLaw, .ref a_readNow, .ref a_law, .ref a_now, .ref a_tried, .int m_undoMany, .int m_undoAt, .ref a_undos, .int m_seenMany, .ref a_seenHour, .ref a_seenAt, .ref a_parts, .ref a_partsThen, .int m_keptMany, .ref a_kept])), (a_text, .inl (cI, 200, .inl m_text)), (a_told, .inl (cI, 3, .inl m_told_3)), (a_readLaw, .inl (cI, 22, .inl m_readLaw_4)), (a_readNow, .inl (cI, 26, .inl m_readNow_5)), (a_law, .inl (cI, 22, .inl m_law)), (a_now, .inl (cI, 26, .inl m_now))] := hD
  refine lv_bipush (v := (-4 : Int32)) hx hb dX8_lay_4 (by decide) ?_
  refine lv_icmp_ne (tgt := 27) hx hb dX8_lay_6 (by decide) (fun c7 => ?_) (fun c7 => ?_)
  · have hF := op_neg c7 hF
    refine lv_bipush (v := (-2 : Int32)) hx hb dX8_lay_27 (by decide) ?_
    cases hF
    rw [hQ]
    exact xri hC hP hS dX8_lay_29
  · have hF := op_pos c7 hF
    refine lv_aload_n hx hb dX8_lay_9 rfl (lv_at hl 0 rfl) ?_
    refine va_get (D := D) (ci := 8) (v := .ref a_readLaw) (C := RX8) (T := TX8) (N := 19) hx hb hts iX8 hown hK hP 0 rfl rfl 4 (by decide) k_f16 (fun _ h9 => h9) rfl dX8_lay_10 ?_
    refine lv_iconst (v := (1 : Int32)) hx hb dX8_lay_13 (by decide) ?_
    refine va_iald hx hb hK hP 3 0 rfl rfl (okb_in (by decide)) dX8_lay_14 ?_
    refine lv_if_eq (tgt := 27) hx hb dX8_lay_15 (by decide) (fun c8 => ?_) (fun c8 => ?_)
    · have hF := op_pos c8 hF
      refine lv_bipush (v := (-2 : Int32)) hx hb dX8_lay_27 (by decide) ?_
      cases hF
      rw [hQ]
      exact xri hC hP hS dX8_lay_29
    · have hF := op_neg c8 hF
      refine lv_aload_n hx hb dX8_lay_18 rfl (lv_at hl 0 rfl) ?_
      refine va_get (D := D) (ci := 8) (v := .ref a_readLaw) (C := RX8) (T := TX8) (N := 19) hx hb hts iX8 hown hK hP 0 rfl rfl 4 (by decide) k_f16 (fun _ h9 => h9) rfl dX8_lay_19 ?_
      refine lv_iconst (v := (2 : Int32)) hx hb dX8_lay_22 (by decide) ?_
      refine va_iald hx hb hK hP 3 0 rfl rfl (okb_in (by decide)) dX8_lay_23 ?_
      refine lv_if_ne (tgt := 30) hx hb dX8_lay_24 (by decide) (fun c9 => ?_) (fun c9 => ?_)
      · have hF := op_neg c9 hF
        refine lv_iconst (v := (0 : Int32)) hx hb dX8_lay_30 (by decide) ?_
        refine lv_istore_n (lv' := [(1, .int (0 : Int32)), (0, .ref ax)]) hx hb dX8_lay_31 rfl hl (by decide) rfl (fun ls hl => ?_)
        have hL32 : ∀ (k32 : Int32 → (Nat → Int32) → Option (Int32 × Int32 × Int32 × Int32 × Int32 × (Nat → Int32) × (Nat → Int32) × (Nat → Int32) × (Nat → Int32) × (Nat → Int32))), (∀ (v10 : Int32) (m_law_11 : (Nat → Int32)) (H : Heap) (locs : List Loc), va_P D vwCl [(ax, .inr (8, [.int m_letterMany, .ref a_text, .int m_readAt_2, .ref a_told, .ref a_readLaw, .ref a_readNow, .ref a_law, .ref a_now, .ref a_tried, .int m_undoMany, .int m_undoAt, .ref a_undos, .int m_seenMany, .ref a_seenHour, .ref a_seenAt, .ref a_parts, .ref a_partsThen, .int m_keptMany, .ref a_kept])), (a_text, .inl (cI, 200, .inl m_text)), (a_told, .inl (cI, 3, .inl m_told_3)), (a_readLaw, .inl (cI, 22, .inl m_readLaw_4)), (a_readNow, .inl (cI, 26, .inl m_readNow_5)), (a_law, .inl (cI, 22, .inl m_law_11)), (a_now, .inl (cI, 26, .inl m_now))] H → va_D A [(ax, .inr (8, [.int m_letterMany, .ref a_text, .int m_readAt_2, .ref a_told, .ref a_readLaw, .ref a_readNow, .ref a_law, .ref a_now, .ref a_tried, .int m_undoMany, .int m_undoAt, .ref a_undos, .int m_seenMany, .ref a_seenHour, .ref a_seenAt, .ref a_parts, .ref a_partsThen, .int m_keptMany, .ref a_kept])), (a_text, .inl (cI, 200, .inl m_text)), (a_told, .inl (cI, 3, .inl m_told_3)), (a_readLaw, .inl (cI, 22, .inl m_readLaw_4)), (a_readNow, .inl (cI, 26, .inl m_readNow_5)), (a_law, .inl (cI, 22, .inl m_law_11)), (a_now, .inl (cI, 26, .inl m_now))] → va_S A s.heap H locs → ∀ ls : Array Slot, lv_has ls 2 [(0, .ref ax)] → k32 v10 m_law_11 = some (rr, m_readAt', m_undoMany', m_seenMany', m_keptMany', m_told', m_readLaw', m_readNow', m_law', m_now') → W p l e rm_X8_lay s m args below meth c H locs 0 0 Q (F0 m 56 ls [])) → ∀ (nf32 : Nat) (v10 : Int32) (m_law_11 : (Nat → Int32)) (H : Heap) (locs : List Loc), va_P D vwCl [(ax, .inr (8, [.int m_letterMany, .ref a_text, .int m_readAt_2, .ref a_told, .ref a_readLaw, .ref a_readNow, .ref a_law, .ref a_now, .ref a_tried, .int m_undoMany, .int m_undoAt, .ref a_undos, .int m_seenMany, .ref a_seenHour, .ref a_seenAt, .ref a_parts, .ref a_partsThen, .int m_keptMany, .ref a_kept])), (a_text, .inl (cI, 200, .inl m_text)), (a_told, .inl (cI, 3, .inl m_told_3)), (a_readLaw, .inl (cI, 22, .inl m_readLaw_4)), (a_readNow, .inl (cI, 26, .inl m_readNow_5)), (a_law, .inl (cI, 22, .inl m_law_11)), (a_now, .inl (cI, 26, .inl m_now))] H → va_D A [(ax, .inr (8, [.int m_letterMany, .ref a_text, .int m_readAt_2, .ref a_told, .ref a_readLaw, .ref a_readNow, .ref a_law, .ref a_now, .ref a_tried, .int m_undoMany, .int m_undoAt, .ref a_undos, .int m_seenMany, .ref a_seenHour, .ref a_seenAt, .ref a_parts, .ref a_partsThen, .int m_keptMany, .ref a_kept])), (a_text, .inl (cI, 200, .inl m_text)), (a_told, .inl (cI, 3, .inl m_told_3)), (a_readLaw, .inl (cI, 22, .inl m_readLaw_4)), (a_readNow, .inl (cI, 26, .inl m_readNow_5)), (a_law, .inl (cI, 22, .inl m_law_11)), (a_now, .inl (cI, 26, .inl m_now))] → va_S A s.heap H locs → ∀ ls : Array Slot, lv_has ls 2 [(1, .int v10), (0, .ref ax)] → f_X8_lay_L32 m_readLaw_4 k32 nf32 v10 m_law_11 = some (rr, m_readAt', m_undoMany', m_seenMany', m_keptMany', m_told', m_readLaw', m_readNow', m_law', m_now') → W p l e rm_X8_lay s m args below meth c H locs 0 0 Q (F0 m 32 ls []) := by
          intro k32 hk32 nf32
          induction nf32 with
          | zero =>
            intro v10 m_law_11 H locs hP hD hS ls hl hF
            rw [f_X8_lay_L32_0] at hF
            cases hF
          | succ nf32 ih32 =>
            intro v10 m_law_11 H locs hP hD hS ls hl hF
            rw [f_X8_lay_L32_s] at hF
            refine lv_iload_n hx hb dX8_lay_32 rfl (lv_at hl 0 rfl) ?_
            refine lv_bipush (v := (22 : Int32)) hx hb dX8_lay_33 (by decide) ?_
            refine lv_icmp_ge (tgt := 56) hx hb dX8_lay_35 (by decide) (fun c12 => ?_) (fun c12 => ?_)
            · have hF := op_pos c12 hF
              exact hk32 v10 m_law_11 _ _ hP hD hS _ (lv_sub hl [1] rfl) hF
            · have hF := op_neg c12 hF
              refine lv_aload_n hx hb dX8_lay_38 rfl (lv_at hl 1 rfl) ?_
              refine va_get (D := D) (ci := 8) (v := .ref a_law) (C := RX8) (T := TX8) (N := 19) hx hb hts iX8 hown hK hP 0 rfl rfl 6 (by decide) k_f22 (fun _ h9 => h9) rfl dX8_lay_39 ?_
              refine lv_iload_n hx hb dX8_lay_42 rfl (lv_at hl 0 rfl) ?_
              refine lv_aload_n hx hb dX8_lay_43 rfl (lv_at hl 1 rfl) ?_
              refine va_get (D := D) (ci := 8) (v := .ref a_readLaw) (C := RX8) (T := TX8) (N := 19) hx hb hts iX8 hown hK hP 0 rfl rfl 4 (by decide) k_f16 (fun _ h9 => h9) rfl dX8_lay_44 ?_
              refine lv_iload_n hx hb dX8_lay_47 rfl (lv_at hl 0 rfl) ?_
              obtain ⟨o13, hF⟩ := op_ob hF
              refine va_iald hx hb hK hP 3 0 rfl rfl (okb_in o13) dX8_lay_48 ?_
              refine va_iast hx hb hK hP hD hS 5 0 rfl rfl (okb_in o13) dX8_lay_49 (fun H locs hP hD hS => ?_)
              have hP : va_P D vwCl [(ax, .inr (8, [.int m_letterMany, .ref a_text, .int m_readAt_2, .ref a_told, .ref a_readLaw, .ref a_readNow, .ref a_law, .ref a_now, .ref a_tried, .int m_undoMany, .int m_undoAt, .ref a_undos, .int m_seenMany, .ref a_seenHour, .ref a_seenAt, .ref a_parts, .ref a_partsThen, .int m_keptMany, .ref a_kept])), (a_text, .inl (cI, 200, .inl m_text)), (a_told, .inl (cI, 3, .inl m_told_3)), (a_readLaw, .inl (cI, 22, .inl m_readLaw_4)), (a_readNow, .inl (cI, 26, .inl m_readNow_5)), (a_law, .inl (cI, 22, .inl (upd m_law_11 v10.toNatClampNeg (m_readLaw_4 v10.toNatClampNeg)))), (a_now, .inl (cI, 26, .inl m_now))] H := hP
              have hD : va_D A [(ax, .inr (8, [.int m_letterMany, .ref a_text, .int m_readAt_2, .ref a_told, .ref a_readLaw, .ref a_readNow, .ref a_law, .ref a_now, .ref a_tried, .int m_undoMany, .int m_undoAt, .ref a_undos, .int m_seenMany, .ref a_seenHour, .ref a_seenAt, .ref a_parts, .ref a_partsThen, .int m_keptMany, .ref a_kept])), (a_text, .inl (cI, 200, .inl m_text)), (a_told, .inl (cI, 3, .inl m_told_3)), (a_readLaw, .inl (cI, 22, .inl m_readLaw_4)), (a_readNow, .inl (cI, 26, .inl m_readNow_5)), (a_law, .inl (cI, 22, .inl (upd m_law_11 v10.toNatClampNeg (m_readLaw_4 v10.toNatClampNeg)))), (a_now, .inl (cI, 26, .inl m_now))] := hD
              refine lv_iinc (v := (v10 + (1 : Int32))) (lv' := [(1, .int (v10 + (1 : Int32))), (0, .ref ax)]) hx hb dX8_lay_50 hl (k := 0) rfl (by first | rfl | decide) (by decide) rfl (fun ls hl => ?_)
              refine lv_goto (tgt := 32) hx hb dX8_lay_53 (by decide) ?_
              exact ih32 (v10 + (1 : Int32)) (upd m_law_11 v10.toNatClampNeg (m_readLaw_4 v10.toNatClampNeg)) _ _ hP hD hS _ (lv_sub hl [0, 1] rfl) hF
        refine hL32 _ (fun v10 m_law_11 H locs hP hD hS ls hl hF => ?_) 20000 (0 : Int32) m_law _ _ hP hD hS _ (lv_sub hl [0, 1] rfl) hF
        refine lv_iconst (v := (0 : Int32)) hx hb dX8_lay_56 (by decide) ?_
        refine lv_istore_n (lv' := [(1, .int (0 : Int32)), (0, .ref ax)]) hx hb dX8_lay_57 rfl hl (by decide) rfl (fun ls hl => ?_)
        have hL58 : ∀ (k58 : Int32 → (Nat → Int32) → Option (Int32 × Int32 × Int32 × Int32 × Int32 × (Nat → Int32) × (Nat → Int32) × (Nat → Int32) × (Nat → Int32) × (Nat → Int32))), (∀ (v14 : Int32) (m_now_15 : (Nat → Int32)) (H : Heap) (locs : List Loc), va_P D vwCl [(ax, .inr (8, [.int m_letterMany, .ref a_text, .int m_readAt_2, .ref a_told, .ref a_readLaw, .ref a_readNow, .ref a_law, .ref a_now, .ref a_tried, .int m_undoMany, .int m_undoAt, .ref a_undos, .int m_seenMany, .ref a_seenHour, .ref a_seenAt, .ref a_parts, .ref a_partsThen, .int m_keptMany, .ref a_kept])), (a_text, .inl (cI, 200, .inl m_text)), (a_told, .inl (cI, 3, .inl m_told_3)), (a_readLaw, .inl (cI, 22, .inl m_readLaw_4)), (a_readNow, .inl (cI, 26, .inl m_readNow_5)), (a_law, .inl (cI, 22, .inl m_law_11)), (a_now, .inl (cI, 26, .inl m_now_15))] H → va_D A [(ax, .inr (8, [.int m_letterMany, .ref a_text, .int m_readAt_2, .ref a_told, .ref a_readLaw, .ref a_readNow, .ref a_law, .ref a_now, .ref a_tried, .int m_undoMany, .int m_undoAt, .ref a_undos, .int m_seenMany, .ref a_seenHour, .ref a_seenAt, .ref a_parts, .ref a_partsThen, .int m_keptMany, .ref a_kept])), (a_text, .inl (cI, 200, .inl m_text)), (a_told, .inl (cI, 3, .inl m_told_3)), (a_readLaw, .inl (cI, 22, .inl m_readLaw_4)), (a_readNow, .inl (cI, 26, .inl m_readNow_5)), (a_law, .inl (cI, 22, .inl m_law_11)), (a_now, .inl (cI, 26, .inl m_now_15))] → va_S A s.heap H locs → ∀ ls : Array Slot, lv_has ls 2 [(0, .ref ax)] → k58 v14 m_now_15 = some (rr, m_readAt', m_undoMany', m_seenMany', m_keptMany', m_told', m_readLaw', m_readNow', m_law', m_now') → W p l e rm_X8_lay s m args below meth c H locs 0 0 Q (F0 m 82 ls [])) → ∀ (nf58 : Nat) (v14 : Int32) (m_now_15 : (Nat → Int32)) (H : Heap) (locs : List Loc), va_P D vwCl [(ax, .inr (8, [.int m_letterMany, .ref a_text, .int m_readAt_2, .ref a_told, .ref a_readLaw, .ref a_readNow, .ref a_law, .ref a_now, .ref a_tried, .int m_undoMany, .int m_undoAt, .ref a_undos, .int m_seenMany, .ref a_seenHour, .ref a_seenAt, .ref a_parts, .ref a_partsThen, .int m_keptMany, .ref a_kept])), (a_text, .inl (cI, 200, .inl m_text)), (a_told, .inl (cI, 3, .inl m_told_3)), (a_readLaw, .inl (cI, 22, .inl m_readLaw_4)), (a_readNow, .inl (cI, 26, .inl m_readNow_5)), (a_law, .inl (cI, 22, .inl m_law_11)), (a_now, .inl (cI, 26, .inl m_now_15))] H → va_D A [(ax, .inr (8, [.int m_letterMany, .ref a_text, .int m_readAt_2, .ref a_told, .ref a_readLaw, .ref a_readNow, .ref a_law, .ref a_now, .ref a_tried, .int m_undoMany, .int m_undoAt, .ref a_undos, .int m_seenMany, .ref a_seenHour, .ref a_seenAt, .ref a_parts, .ref a_partsThen, .int m_keptMany, .ref a_kept])), (a_text, .inl (cI, 200, .inl m_text)), (a_told, .inl (cI, 3, .inl m_told_3)), (a_readLaw, .inl (cI, 22, .inl m_readLaw_4)), (a_readNow, .inl (cI, 26, .inl m_readNow_5)), (a_law, .inl (cI, 22, .inl m_law_11)), (a_now, .inl (cI, 26, .inl m_now_15))] → va_S A s.heap H locs → ∀ ls : Array Slot, lv_has ls 2 [(1, .int v14), (0, .ref ax)] → f_X8_lay_L58 m_readNow_5 k58 nf58 v14 m_now_15 = some (rr, m_readAt', m_undoMany', m_seenMany', m_keptMany', m_told', m_readLaw', m_readNow', m_law', m_now') → W p l e rm_X8_lay s m args below meth c H locs 0 0 Q (F0 m 58 ls []) := by
          intro k58 hk58 nf58
          induction nf58 with
          | zero =>
            intro v14 m_now_15 H locs hP hD hS ls hl hF
            rw [f_X8_lay_L58_0] at hF
            cases hF
          | succ nf58 ih58 =>
            intro v14 m_now_15 H locs hP hD hS ls hl hF
            rw [f_X8_lay_L58_s] at hF
            refine lv_iload_n hx hb dX8_lay_58 rfl (lv_at hl 0 rfl) ?_
            refine lv_bipush (v := (26 : Int32)) hx hb dX8_lay_59 (by decide) ?_
            refine lv_icmp_ge (tgt := 82) hx hb dX8_lay_61 (by decide) (fun c16 => ?_) (fun c16 => ?_)
            · have hF := op_pos c16 hF
              exact hk58 v14 m_now_15 _ _ hP hD hS _ (lv_sub hl [1] rfl) hF
            · have hF := op_neg c16 hF
              refine lv_aload_n hx hb dX8_lay_64 rfl (lv_at hl 1 rfl) ?_
              refine va_get (D := D) (ci := 8) (v := .ref a_now) (C := RX8) (T := TX8) (N := 19) hx hb hts iX8 hown hK hP 0 rfl rfl 7 (by decide) k_f25 (fun _ h9 => h9) rfl dX8_lay_65 ?_
              refine lv_iload_n hx hb dX8_lay_68 rfl (lv_at hl 0 rfl) ?_
              refine lv_aload_n hx hb dX8_lay_69 rfl (lv_at hl 1 rfl) ?_
              refine va_get (D := D) (ci := 8) (v := .ref a_readNow) (C := RX8) (T := TX8) (N := 19) hx hb hts iX8 hown hK hP 0 rfl rfl 5 (by decide) k_f19 (fun _ h9 => h9) rfl dX8_lay_70 ?_
              refine lv_iload_n hx hb dX8_lay_73 rfl (lv_at hl 0 rfl) ?_
              obtain ⟨o17, hF⟩ := op_ob hF
              refine va_iald hx hb hK hP 4 0 rfl rfl (okb_in o17) dX8_lay_74 ?_
              refine va_iast hx hb hK hP hD hS 6 0 rfl rfl (okb_in o17) dX8_lay_75 (fun H locs hP hD hS => ?_)
              have hP : va_P D vwCl [(ax, .inr (8, [.int m_letterMany, .ref a_text, .int m_readAt_2, .ref a_told, .ref a_readLaw, .ref a_readNow, .ref a_law, .ref a_now, .ref a_tried, .int m_undoMany, .int m_undoAt, .ref a_undos, .int m_seenMany, .ref a_seenHour, .ref a_seenAt, .ref a_parts, .ref a_partsThen, .int m_keptMany, .ref a_kept])), (a_text, .inl (cI, 200, .inl m_text)), (a_told, .inl (cI, 3, .inl m_told_3)), (a_readLaw, .inl (cI, 22, .inl m_readLaw_4)), (a_readNow, .inl (cI, 26, .inl m_readNow_5)), (a_law, .inl (cI, 22, .inl m_law_11)), (a_now, .inl (cI, 26, .inl (upd m_now_15 v14.toNatClampNeg (m_readNow_5 v14.toNatClampNeg))))] H := hP
              have hD : va_D A [(ax, .inr (8, [.int m_letterMany, .ref a_text, .int m_readAt_2, .ref a_told, .ref a_readLaw, .ref a_readNow, .ref a_law, .ref a_now, .ref a_tried, .int m_undoMany, .int m_undoAt, .ref a_undos, .int m_seenMany, .ref a_seenHour, .ref a_seenAt, .ref a_parts, .ref a_partsThen, .int m_keptMany, .ref a_kept])), (a_text, .inl (cI, 200, .inl m_text)), (a_told, .inl (cI, 3, .inl m_told_3)), (a_readLaw, .inl (cI, 22, .inl m_readLaw_4)), (a_readNow, .inl (cI, 26, .inl m_readNow_5)), (a_law, .inl (cI, 22, .inl m_law_11)), (a_now, .inl (cI, 26, .inl (upd m_now_15 v14.toNatClampNeg (m_readNow_5 v14.toNatClampNeg))))] := hD
              refine lv_iinc (v := (v14 + (1 : Int32))) (lv' := [(1, .int (v14 + (1 : Int32))), (0, .ref ax)]) hx hb dX8_lay_76 hl (k := 0) rfl (by first | rfl | decide) (by decide) rfl (fun ls hl => ?_)
              refine lv_goto (tgt := 58) hx hb dX8_lay_79 (by decide) ?_
              exact ih58 (v14 + (1 : Int32)) (upd m_now_15 v14.toNatClampNeg (m_readNow_5 v14.toNatClampNeg)) _ _ hP hD hS _ (lv_sub hl [0, 1] rfl) hF
        refine hL58 _ (fun v14 m_now_15 H locs hP hD hS ls hl hF => ?_) 20000 (0 : Int32) m_now _ _ hP hD hS _ (lv_sub hl [0, 1] rfl) hF
        refine lv_iconst (v := (0 : Int32)) hx hb dX8_lay_82 (by decide) ?_
        refine lv_istore_n (lv' := [(1, .int (0 : Int32)), (0, .ref ax)]) hx hb dX8_lay_83 rfl hl (by decide) rfl (fun ls hl => ?_)
        have hL84 : ∀ (k84 : Int32 → (Nat → Int32) → Option (Int32 × Int32 × Int32 × Int32 × Int32 × (Nat → Int32) × (Nat → Int32) × (Nat → Int32) × (Nat → Int32) × (Nat → Int32))), (∀ (v18 : Int32) (m_now_19 : (Nat → Int32)) (H : Heap) (locs : List Loc), va_P D vwCl [(ax, .inr (8, [.int m_letterMany, .ref a_text, .int m_readAt_2, .ref a_told, .ref a_readLaw, .ref a_readNow, .ref a_law, .ref a_now, .ref a_tried, .int m_undoMany, .int m_undoAt, .ref a_undos, .int m_seenMany, .ref a_seenHour, .ref a_seenAt, .ref a_parts, .ref a_partsThen, .int m_keptMany, .ref a_kept])), (a_text, .inl (cI, 200, .inl m_text)), (a_told, .inl (cI, 3, .inl m_told_3)), (a_readLaw, .inl (cI, 22, .inl m_readLaw_4)), (a_readNow, .inl (cI, 26, .inl m_readNow_5)), (a_law, .inl (cI, 22, .inl m_law_11)), (a_now, .inl (cI, 26, .inl m_now_19))] H → va_D A [(ax, .inr (8, [.int m_letterMany, .ref a_text, .int m_readAt_2, .ref a_told, .ref a_readLaw, .ref a_readNow, .ref a_law, .ref a_now, .ref a_tried, .int m_undoMany, .int m_undoAt, .ref a_undos, .int m_seenMany, .ref a_seenHour, .ref a_seenAt, .ref a_parts, .ref a_partsThen, .int m_keptMany, .ref a_kept])), (a_text, .inl (cI, 200, .inl m_text)), (a_told, .inl (cI, 3, .inl m_told_3)), (a_readLaw, .inl (cI, 22, .inl m_readLaw_4)), (a_readNow, .inl (cI, 26, .inl m_readNow_5)), (a_law, .inl (cI, 22, .inl m_law_11)), (a_now, .inl (cI, 26, .inl m_now_19))] → va_S A s.heap H locs → ∀ ls : Array Slot, lv_has ls 2 [(0, .ref ax)] → k84 v18 m_now_19 = some (rr, m_readAt', m_undoMany', m_seenMany', m_keptMany', m_told', m_readLaw', m_readNow', m_law', m_now') → W p l e rm_X8_lay s m args below meth c H locs 0 0 Q (F0 m 106 ls [])) → ∀ (nf84 : Nat) (v18 : Int32) (m_now_19 : (Nat → Int32)) (H : Heap) (locs : List Loc), va_P D vwCl [(ax, .inr (8, [.int m_letterMany, .ref a_text, .int m_readAt_2, .ref a_told, .ref a_readLaw, .ref a_readNow, .ref a_law, .ref a_now, .ref a_tried, .int m_undoMany, .int m_undoAt, .ref a_undos, .int m_seenMany, .ref a_seenHour, .ref a_seenAt, .ref a_parts, .ref a_partsThen, .int m_keptMany, .ref a_kept])), (a_text, .inl (cI, 200, .inl m_text)), (a_told, .inl (cI, 3, .inl m_told_3)), (a_readLaw, .inl (cI, 22, .inl m_readLaw_4)), (a_readNow, .inl (cI, 26, .inl m_readNow_5)), (a_law, .inl (cI, 22, .inl m_law_11)), (a_now, .inl (cI, 26, .inl m_now_19))] H → va_D A [(ax, .inr (8, [.int m_letterMany, .ref a_text, .int m_readAt_2, .ref a_told, .ref a_readLaw, .ref a_readNow, .ref a_law, .ref a_now, .ref a_tried, .int m_undoMany, .int m_undoAt, .ref a_undos, .int m_seenMany, .ref a_seenHour, .ref a_seenAt, .ref a_parts, .ref a_partsThen, .int m_keptMany, .ref a_kept])), (a_text, .inl (cI, 200, .inl m_text)), (a_told, .inl (cI, 3, .inl m_told_3)), (a_readLaw, .inl (cI, 22, .inl m_readLaw_4)), (a_readNow, .inl (cI, 26, .inl m_readNow_5)), (a_law, .inl (cI, 22, .inl m_law_11)), (a_now, .inl (cI, 26, .inl m_now_19))] → va_S A s.heap H locs → ∀ ls : Array Slot, lv_has ls 2 [(1, .int v18), (0, .ref ax)] → f_X8_lay_L84 k84 nf84 v18 m_now_19 = some (rr, m_readAt', m_undoMany', m_seenMany', m_keptMany', m_told', m_readLaw', m_readNow', m_law', m_now') → W p l e rm_X8_lay s m args below meth c H locs 0 0 Q (F0 m 84 ls []) := by
          intro k84 hk84 nf84
          induction nf84 with
          | zero =>
            intro v18 m_now_19 H locs hP hD hS ls hl hF
            rw [f_X8_lay_L84_0] at hF
            cases hF
          | succ nf84 ih84 =>
            intro v18 m_now_19 H locs hP hD hS ls hl hF
            rw [f_X8_lay_L84_s] at hF
            refine lv_iload_n hx hb dX8_lay_84 rfl (lv_at hl 0 rfl) ?_
            refine lv_iconst (v := (5 : Int32)) hx hb dX8_lay_85 (by decide) ?_
            refine lv_icmp_ge (tgt := 106) hx hb dX8_lay_86 (by decide) (fun c20 => ?_) (fun c20 => ?_)
            · have hF := op_pos c20 hF
              exact hk84 v18 m_now_19 _ _ hP hD hS _ (lv_sub hl [1] rfl) hF
            · have hF := op_neg c20 hF
              refine lv_aload_n hx hb dX8_lay_89 rfl (lv_at hl 1 rfl) ?_
              refine va_get (D := D) (ci := 8) (v := .ref a_now) (C := RX8) (T := TX8) (N := 19) hx hb hts iX8 hown hK hP 0 rfl rfl 7 (by decide) k_f25 (fun _ h9 => h9) rfl dX8_lay_90 ?_
              refine lv_bipush (v := (21 : Int32)) hx hb dX8_lay_93 (by decide) ?_
              refine lv_iload_n hx hb dX8_lay_95 rfl (lv_at hl 0 rfl) ?_
              refine lv_iadd hx hb dX8_lay_96 ?_
              refine lv_bipush (v := (-4 : Int32)) hx hb dX8_lay_97 (by decide) ?_
              obtain ⟨o21, hF⟩ := op_ob hF
              refine va_iast hx hb hK hP hD hS 6 0 rfl rfl (okb_in o21) dX8_lay_99 (fun H locs hP hD hS => ?_)
              have hP : va_P D vwCl [(ax, .inr (8, [.int m_letterMany, .ref a_text, .int m_readAt_2, .ref a_told, .ref a_readLaw, .ref a_readNow, .ref a_law, .ref a_now, .ref a_tried, .int m_undoMany, .int m_undoAt, .ref a_undos, .int m_seenMany, .ref a_seenHour, .ref a_seenAt, .ref a_parts, .ref a_partsThen, .int m_keptMany, .ref a_kept])), (a_text, .inl (cI, 200, .inl m_text)), (a_told, .inl (cI, 3, .inl m_told_3)), (a_readLaw, .inl (cI, 22, .inl m_readLaw_4)), (a_readNow, .inl (cI, 26, .inl m_readNow_5)), (a_law, .inl (cI, 22, .inl m_law_11)), (a_now, .inl (cI, 26, .inl (upd m_now_19 ((21 : Int32) + v18).toNatClampNeg (-4 : Int32))))] H := hP
              have hD : va_D A [(ax, .inr (8, [.int m_letterMany, .ref a_text, .int m_readAt_2, .ref a_told, .ref a_readLaw, .ref a_readNow, .ref a_law, .ref a_now, .ref a_tried, .int m_undoMany, .int m_undoAt, .ref a_undos, .int m_seenMany, .ref a_seenHour, .ref a_seenAt, .ref a_parts, .ref a_partsThen, .int m_keptMany, .ref a_kept])), (a_text, .inl (cI, 200, .inl m_text)), (a_told, .inl (cI, 3, .inl m_told_3)), (a_readLaw, .inl (cI, 22, .inl m_readLaw_4)), (a_readNow, .inl (cI, 26, .inl m_readNow_5)), (a_law, .inl (cI, 22, .inl m_law_11)), (a_now, .inl (cI, 26, .inl (upd m_now_19 ((21 : Int32) + v18).toNatClampNeg (-4 : Int32))))] := hD
              refine lv_iinc (v := (v18 + (1 : Int32))) (lv' := [(1, .int (v18 + (1 : Int32))), (0, .ref ax)]) hx hb dX8_lay_100 hl (k := 0) rfl (by first | rfl | decide) (by decide) rfl (fun ls hl => ?_)
              refine lv_goto (tgt := 84) hx hb dX8_lay_103 (by decide) ?_
              exact ih84 (v18 + (1 : Int32)) (upd m_now_19 ((21 : Int32) + v18).toNatClampNeg (-4 : Int32)) _ _ hP hD hS _ (lv_sub hl [0, 1] rfl) hF
        refine hL84 _ (fun v18 m_now_19 H locs hP hD hS ls hl hF => ?_) 20000 (0 : Int32) m_now_15 _ _ hP hD hS _ (lv_sub hl [0, 1] rfl) hF
        refine lv_aload_n hx hb dX8_lay_106 rfl (lv_at hl 0 rfl) ?_
        refine lv_iconst (v := (0 : Int32)) hx hb dX8_lay_107 (by decide) ?_
        refine va_put (D := D) (ci := 8) (v := .int (0 : Int32)) (ty := .int) (C := RX8) (T := TX8) (N := 19) hx hb hts iX8 tyX8 tyX8_ok nmX8 hown hK hP hD hS 0 rfl rfl 9 (by decide) k_f99 (fun _ h9 => h9) rfl (by decide +kernel) rfl rfl (Nat.le_of_ble_eq_true rfl) dX8_lay_108 (fun H locs hP hD hS => ?_)
        have hP : va_P D vwCl [(ax, .inr (8, [.int m_letterMany, .ref a_text, .int m_readAt_2, .ref a_told, .ref a_readLaw, .ref a_readNow, .ref a_law, .ref a_now, .ref a_tried, .int (0 : Int32), .int m_undoAt, .ref a_undos, .int m_seenMany, .ref a_seenHour, .ref a_seenAt, .ref a_parts, .ref a_partsThen, .int m_keptMany, .ref a_kept])), (a_text, .inl (cI, 200, .inl m_text)), (a_told, .inl (cI, 3, .inl m_told_3)), (a_readLaw, .inl (cI, 22, .inl m_readLaw_4)), (a_readNow, .inl (cI, 26, .inl m_readNow_5)), (a_law, .inl (cI, 22, .inl m_law_11)), (a_now, .inl (cI, 26, .inl m_now_19))] H := hP
        have hD : va_D A [(ax, .inr (8, [.int m_letterMany, .ref a_text, .int m_readAt_2, .ref a_told, .ref a_readLaw, .ref a_readNow, .ref a_law, .ref a_now, .ref a_tried, .int (0 : Int32), .int m_undoAt, .ref a_undos, .int m_seenMany, .ref a_seenHour, .ref a_seenAt, .ref a_parts, .ref a_partsThen, .int m_keptMany, .ref a_kept])), (a_text, .inl (cI, 200, .inl m_text)), (a_told, .inl (cI, 3, .inl m_told_3)), (a_readLaw, .inl (cI, 22, .inl m_readLaw_4)), (a_readNow, .inl (cI, 26, .inl m_readNow_5)), (a_law, .inl (cI, 22, .inl m_law_11)), (a_now, .inl (cI, 26, .inl m_now_19))] := hD
        refine lv_aload_n hx hb dX8_lay_111 rfl (lv_at hl 0 rfl) ?_
        refine lv_iconst (v := (0 : Int32)) hx hb dX8_lay_112 (by decide) ?_
        refine va_put (D := D) (ci := 8) (v := .int (0 : Int32)) (ty := .int) (C := RX8) (T := TX8) (N := 19) hx hb hts iX8 tyX8 tyX8_ok nmX8 hown hK hP hD hS 0 rfl rfl 17 (by decide) k_f102 (fun _ h9 => h9) rfl (by decide +kernel) rfl rfl (Nat.le_of_ble_eq_true rfl) dX8_lay_113 (fun H locs hP hD hS => ?_)
        have hP : va_P D vwCl [(ax, .inr (8, [.int m_letterMany, .ref a_text, .int m_readAt_2, .ref a_told, .ref a_readLaw, .ref a_readNow, .ref a_law, .ref a_now, .ref a_tried, .int (0 : Int32), .int m_undoAt, .ref a_undos, .int m_seenMany, .ref a_seenHour, .ref a_seenAt, .ref a_parts, .ref a_partsThen, .int (0 : Int32), .ref a_kept])), (a_text, .inl (cI, 200, .inl m_text)), (a_told, .inl (cI, 3, .inl m_told_3)), (a_readLaw, .inl (cI, 22, .inl m_readLaw_4)), (a_readNow, .inl (cI, 26, .inl m_readNow_5)), (a_law, .inl (cI, 22, .inl m_law_11)), (a_now, .inl (cI, 26, .inl m_now_19))] H := hP
        have hD : va_D A [(ax, .inr (8, [.int m_letterMany, .ref a_text, .int m_readAt_2, .ref a_told, .ref a_readLaw, .ref a_readNow, .ref a_law, .ref a_now, .ref a_tried, .int (0 : Int32), .int m_undoAt, .ref a_undos, .int m_seenMany, .ref a_seenHour, .ref a_seenAt, .ref a_parts, .ref a_partsThen, .int (0 : Int32), .ref a_kept])), (a_text, .inl (cI, 200, .inl m_text)), (a_told, .inl (cI, 3, .inl m_told_3)), (a_readLaw, .inl (cI, 22, .inl m_readLaw_4)), (a_readNow, .inl (cI, 26, .inl m_readNow_5)), (a_law, .inl (cI, 22, .inl m_law_11)), (a_now, .inl (cI, 26, .inl m_now_19))] := hD
        refine lv_aload_n hx hb dX8_lay_116 rfl (lv_at hl 0 rfl) ?_
        refine lv_iconst (v := (0 : Int32)) hx hb dX8_lay_117 (by decide) ?_
        refine va_put (D := D) (ci := 8) (v := .int (0 : Int32)) (ty := .int) (C := RX8) (T := TX8) (N := 19) hx hb hts iX8 tyX8 tyX8_ok nmX8 hown hK hP hD hS 0 rfl rfl 12 (by decide) k_f105 (fun _ h9 => h9) rfl (by decide +kernel) rfl rfl (Nat.le_of_ble_eq_true rfl) dX8_lay_118 (fun H locs hP hD hS => ?_)
        have hP : va_P D vwCl [(ax, .inr (8, [.int m_letterMany, .ref a_text, .int m_readAt_2, .ref a_told, .ref a_readLaw, .ref a_readNow, .ref a_law, .ref a_now, .ref a_tried, .int (0 : Int32), .int m_undoAt, .ref a_undos, .int (0 : Int32), .ref a_seenHour, .ref a_seenAt, .ref a_parts, .ref a_partsThen, .int (0 : Int32), .ref a_kept])), (a_text, .inl (cI, 200, .inl m_text)), (a_told, .inl (cI, 3, .inl m_told_3)), (a_readLaw, .inl (cI, 22, .inl m_readLaw_4)), (a_readNow, .inl (cI, 26, .inl m_readNow_5)), (a_law, .inl (cI, 22, .inl m_law_11)), (a_now, .inl (cI, 26, .inl m_now_19))] H := hP
        have hD : va_D A [(ax, .inr (8, [.int m_letterMany, .ref a_text, .int m_readAt_2, .ref a_told, .ref a_readLaw, .ref a_readNow, .ref a_law, .ref a_now, .ref a_tried, .int (0 : Int32), .int m_undoAt, .ref a_undos, .int (0 : Int32), .ref a_seenHour, .ref a_seenAt, .ref a_parts, .ref a_partsThen, .int (0 : Int32), .ref a_kept])), (a_text, .inl (cI, 200, .inl m_text)), (a_told, .inl (cI, 3, .inl m_told_3)), (a_readLaw, .inl (cI, 22, .inl m_readLaw_4)), (a_readNow, .inl (cI, 26, .inl m_readNow_5)), (a_law, .inl (cI, 22, .inl m_law_11)), (a_now, .inl (cI, 26, .inl m_now_19))] := hD
        refine lv_aload_n hx hb dX8_lay_121 rfl (lv_at hl 0 rfl) ?_
        refine va_get (D := D) (ci := 8) (v := .ref a_law) (C := RX8) (T := TX8) (N := 19) hx hb hts iX8 hown hK hP 0 rfl rfl 6 (by decide) k_f22 (fun _ h9 => h9) rfl dX8_lay_122 ?_
        refine lv_iconst (v := (2 : Int32)) hx hb dX8_lay_125 (by decide) ?_
        refine va_iald hx hb hK hP 5 0 rfl rfl (okb_in (by decide)) dX8_lay_126 ?_
        cases hF
        rw [hQ]
        exact xri hC hP hS dX8_lay_127
      · have hF := op_pos c9 hF
        refine lv_bipush (v := (-2 : Int32)) hx hb dX8_lay_27 (by decide) ?_
        cases hF
        rw [hQ]
        exact xri hC hP hS dX8_lay_29
