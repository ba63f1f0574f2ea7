def f_X7_isHour (h : Int32) : Option Int32 := (if h < 0 then (some (0 : Int32)) else (if (24 : Int32) ≤ h then (some (0 : Int32)) else (some (1 : Int32))))

def rm_X7_isHour : Room := { frames := 0, cells := 0, slots := 0, locals := 0 }

theorem pd_X7_isHour : yX7_isHour.cls ≠ "java/lang/invoke/MethodHandle" ∧ yX7_isHour.cls ≠ "java/lang/invoke/VarHandle" ∧ (parseMethodDescriptor yX7_isHour.desc).map (fun d => d.parameters.length) = some 1 := by decide +kernel

set_option maxHeartbeats 4000000 in
set_option maxRecDepth 100000 in
theorem c_X7_isHour (l : Launch) (D : va_G) (cI cC cM : ClassId) (h : Int32) (rr : Int32) (hF : f_X7_isHour h = some rr) : CI l D cI cC cM yX7_isHour wsX7_isHour rm_X7_isHour [.int h] [] [] rr := by
  refine CI.of (cc := cX7_isHour) (nL := 1) (ret := (some .boolean)) (by decide) rfl (Nat.le_of_ble_eq_true rfl) ?_
  intro p e s m args below meth c A hC hP hD hS ls hl
  obtain ⟨hx, hb, hml, hown, hts, hr, hlk, hG, hA⟩ := id hC
  have hown : s.vm.findClass RX7 = some m.cls := hown
  have hK := hG.1
  have hl : lv_has ls 1 [(0, .int h)] := hl
  obtain ⟨Q, hQ⟩ : ∃ Q, Q = MQ below (QI D [] rr A) args s 0 0 A := ⟨_, rfl⟩
  rw [← hQ]
  unfold f_X7_isHour at hF
  refine lv_iload_n hx hb dX7_isHour_0 rfl (lv_at hl 0 rfl) ?_
  refine lv_if_lt (tgt := 14) hx hb dX7_isHour_1 (by decide) (fun c1 => ?_) (fun c1 => ?_)
  · have hF := op_pos c1 hF
    refine lv_iconst (v := (0 : Int32)) hx hb dX7_isHour_14 (by decide) ?_
    cases hF
    rw [hQ]
    exact xrz hC rfl hP hS dX7_isHour_15
  · have hF := op_neg c1 hF
    refine lv_iload_n hx hb dX7_isHour_4 rfl (lv_at hl 0 rfl) ?_
    refine lv_bipush (v := (24 : Int32)) hx hb dX7_isHour_5 (by decide) ?_
    refine lv_icmp_ge (tgt := 14) hx hb dX7_isHour_7 (by decide) (fun c2 => ?_) (fun c2 => ?_)
    · have hF := op_pos c2 hF
      refine lv_iconst (v := (0 : Int32)) hx hb dX7_isHour_14 (by decide) ?_
      cases hF
      rw [hQ]
      exact xrz hC rfl hP hS dX7_isHour_15
    · have hF := op_neg c2 hF
      refine lv_iconst (v := (1 : Int32)) hx hb dX7_isHour_10 (by decide) ?_
      refine lv_goto (tgt := 15) hx hb dX7_isHour_11 (by decide) ?_
      cases hF
      rw [hQ]
      exact xrz hC rfl hP hS dX7_isHour_15

def f_X7_at (n : Nat) (f : (Nat → Int32)) (i : Int32) : Option Int32 := (if i < 0 then (some (0 : Int32)) else (if (nI n) ≤ i then (some (0 : Int32)) else (if okb i n = true then (some (f i.toNatClampNeg)) else none)))

def rm_X7_at : Room := { frames := 0, cells := 0, slots := 0, locals := 0 }

theorem pd_X7_at : yX7_at.cls ≠ "java/lang/invoke/MethodHandle" ∧ yX7_at.cls ≠ "java/lang/invoke/VarHandle" ∧ (parseMethodDescriptor yX7_at.desc).map (fun d => d.parameters.length) = some 2 := by decide +kernel

set_option maxHeartbeats 4000000 in
set_option maxRecDepth 100000 in
theorem c_X7_at (l : Launch) (D : va_G) (cI cC cM : ClassId) (aa : Nat) (n : Nat) (f : (Nat → Int32)) (i : Int32) (rr : Int32) (hF : f_X7_at n f i = some rr) : CI l D cI cC cM yX7_at wsX7_at rm_X7_at [.ref aa, .int i] [(aa, .inl (cI, n, .inl f))] [(aa, .inl (cI, n, .inl f))] rr := by
  refine CI.of (cc := cX7_at) (nL := 2) (ret := (some .int)) (by decide) rfl (Nat.le_of_ble_eq_true rfl) ?_
  intro p e s m args below meth c A hC hP hD hS ls hl
  obtain ⟨hx, hb, hml, hown, hts, hr, hlk, hG, hA⟩ := id hC
  have hown : s.vm.findClass RX7 = some m.cls := hown
  have hK := hG.1
  have hl : lv_has ls 2 [(0, .ref aa), (1, .int i)] := hl
  obtain ⟨Q, hQ⟩ : ∃ Q, Q = MQ below (QI D [(aa, .inl (cI, n, .inl f))] rr A) args s 0 0 A := ⟨_, rfl⟩
  rw [← hQ]
  unfold f_X7_at at hF
  refine lv_iload_n hx hb dX7_at_0 rfl (lv_at hl 1 rfl) ?_
  refine lv_if_lt (tgt := 16) hx hb dX7_at_1 (by decide) (fun c1 => ?_) (fun c1 => ?_)
  · have hF := op_pos c1 hF
    refine lv_iconst (v := (0 : Int32)) hx hb dX7_at_16 (by decide) ?_
    cases hF
    rw [hQ]
    exact xri hC hP hS dX7_at_17
  · have hF := op_neg c1 hF
    refine lv_iload_n hx hb dX7_at_4 rfl (lv_at hl 1 rfl) ?_
    refine lv_aload_n hx hb dX7_at_5 rfl (lv_at hl 0 rfl) ?_
    refine va_alen hx hb hK hP 0 0 rfl rfl (v := (nI n)) rfl dX7_at_6 ?_
    refine lv_icmp_ge (tgt := 16) hx hb dX7_at_7 (by decide) (fun c2 => ?_) (fun c2 => ?_)
    · have hF := op_pos c2 hF
      refine lv_iconst (v := (0 : Int32)) hx hb dX7_at_16 (by decide) ?_
      cases hF
      rw [hQ]
      exact xri hC hP hS dX7_at_17
    · have hF := op_neg c2 hF
      refine lv_aload_n hx hb dX7_at_10 rfl (lv_at hl 0 rfl) ?_
      refine lv_iload_n hx hb dX7_at_11 rfl (lv_at hl 1 rfl) ?_
      obtain ⟨o3, hF⟩ := op_ob hF
      refine va_iald hx hb hK hP 0 0 rfl rfl (okb_in o3) dX7_at_12 ?_
      refine lv_goto (tgt := 17) hx hb dX7_at_13 (by decide) ?_
      cases hF
      rw [hQ]
      exact xri hC hP hS dX7_at_17

def f_X7_put (n : Nat) (f : (Nat → Int32)) (i : Int32) (v : Int32) : Option (Nat → Int32) := (if i < 0 then (some f) else (if (nI n) ≤ i then (some f) else (if okb i n = true then (some (upd f i.toNatClampNeg v)) else none)))

def rm_X7_put : Room := { frames := 0, cells := 0, slots := 0, locals := 0 }

theorem pd_X7_put : yX7_put.cls ≠ "java/lang/invoke/MethodHandle" ∧ yX7_put.cls ≠ "java/lang/invoke/VarHandle" ∧ (parseMethodDescriptor yX7_put.desc).map (fun d => d.parameters.length) = some 3 := by decide +kernel

set_option maxHeartbeats 4000000 in
set_option maxRecDepth 100000 in
theorem c_X7_put (l : Launch) (D : va_G) (cI cC cM : ClassId) (aa : Nat) (n : Nat) (f : (Nat → Int32)) (i : Int32) (v : Int32) (f' : (Nat → Int32)) (hF : f_X7_put n f i v = some f') : CV l D cI cC cM yX7_put wsX7_put rm_X7_put [.ref aa, .int i, .int v] [(aa, .inl (cI, n, .inl f))] [(aa, .inl (cI, n, .inl f'))] := by
  refine CV.of (cc := cX7_put) (nL := 3) (ret := none) (by decide) rfl (Nat.le_of_ble_eq_true rfl) ?_
  intro p e s m args below meth c A hC hP hD hS ls hl
  obtain ⟨hx, hb, hml, hown, hts, hr, hlk, hG, hA⟩ := id hC
  have hown : s.vm.findClass RX7 = some m.cls := hown
  have hK := hG.1
  have hl : lv_has ls 3 [(0, .ref aa), (1, .int i), (2, .int v)] := hl
  obtain ⟨Q, hQ⟩ : ∃ Q, Q = MQ below (QV D [(aa, .inl (cI, n, .inl f'))] A) args s 0 0 A := ⟨_, rfl⟩
  rw [← hQ]
  unfold f_X7_put at hF
  refine lv_iload_n hx hb dX7_put_0 rfl (lv_at hl 1 rfl) ?_
  refine lv_if_lt (tgt := 14) hx hb dX7_put_1 (by decide) (fun c1 => ?_) (fun c1 => ?_)
  · have hF := op_pos c1 hF
    cases hF
    rw [hQ]
    exact xrv hC hP hS dX7_put_14
  · have hF := op_neg c1 hF
    refine lv_iload_n hx hb dX7_put_4 rfl (lv_at hl 1 rfl) ?_
    refine lv_aload_n hx hb dX7_put_5 rfl (lv_at hl 0 rfl) ?_
    refine va_alen hx hb hK hP 0 0 rfl rfl (v := (nI n)) rfl dX7_put_6 ?_
    refine lv_icmp_ge (tgt := 14) hx hb dX7_put_7 (by decide) (fun c2 => ?_) (fun c2 => ?_)
    · have hF := op_pos c2 hF
      cases hF
      rw [hQ]
      exact xrv hC hP hS dX7_put_14
    · have hF := op_neg c2 hF
      refine lv_aload_n hx hb dX7_put_10 rfl (lv_at hl 0 rfl) ?_
      refine lv_iload_n hx hb dX7_put_11 rfl (lv_at hl 1 rfl) ?_
      refine lv_iload_n hx hb dX7_put_12 rfl (lv_at hl 2 rfl) ?_
      obtain ⟨o3, hF⟩ := op_ob hF
      refine va_iast hx hb hK hP hD hS 0 0 rfl rfl (okb_in o3) dX7_put_13 (fun H locs hP hD hS => ?_)
      have hP : va_P D vwCl [(aa, .inl (cI, n, .inl (upd f i.toNatClampNeg v)))] H := hP
      have hD : va_D A [(aa, .inl (cI, n, .inl (upd f i.toNatClampNeg v)))] := hD
      cases hF
      rw [hQ]
      exact xrv hC hP hS dX7_put_14

def f_X7_copyRow_L2 (n : Nat) (nn : Nat) (f : (Nat → Int32)) (k2 : Int32 → (Nat → Int32) → Option (Nat → Int32)) : Nat → Int32 → (Nat → Int32) → Option (Nat → Int32)
  | 0, _, _ => none
  | nf2 + 1, v1, g_2 => (if (nI n) ≤ v1 then (k2 v1 g_2) else (if (nI nn) ≤ v1 then (k2 v1 g_2) else (if okb v1 n = true then (if okb v1 nn = true then (f_X7_copyRow_L2 n nn f k2 nf2 (v1 + (1 : Int32)) (upd g_2 v1.toNatClampNeg (f v1.toNatClampNeg))) else none) else none)))
theorem f_X7_copyRow_L2_0 (n : Nat) (nn : Nat) (f : (Nat → Int32)) (k2 : Int32 → (Nat → Int32) → Option (Nat → Int32)) (v1 : Int32) (g_2 : (Nat → Int32)) : f_X7_copyRow_L2 n nn f k2 0 v1 g_2 = none := rfl
theorem f_X7_copyRow_L2_s (n : Nat) (nn : Nat) (f : (Nat → Int32)) (k2 : Int32 → (Nat → Int32) → Option (Nat → Int32)) (nf2 : Nat) (v1 : Int32) (g_2 : (Nat → Int32)) : f_X7_copyRow_L2 n nn f k2 (nf2 + 1) v1 g_2 = (if (nI n) ≤ v1 then (k2 v1 g_2) else (if (nI nn) ≤ v1 then (k2 v1 g_2) else (if okb v1 n = true then (if okb v1 nn = true then (f_X7_copyRow_L2 n nn f k2 nf2 (v1 + (1 : Int32)) (upd g_2 v1.toNatClampNeg (f v1.toNatClampNeg))) else none) else none))) := rfl

def f_X7_copyRow (n : Nat) (nn : Nat) (f : (Nat → Int32)) (g : (Nat → Int32)) : Option (Nat → Int32) := (f_X7_copyRow_L2 n nn f (fun (v1 : Int32) (g_2 : (Nat → Int32)) => (some g_2)) 20000 (0 : Int32) g)

def rm_X7_copyRow : Room := { frames := 0, cells := 0, slots := 0, locals := 0 }

theorem pd_X7_copyRow : yX7_copyRow.cls ≠ "java/lang/invoke/MethodHandle" ∧ yX7_copyRow.cls ≠ "java/lang/invoke/VarHandle" ∧ (parseMethodDescriptor yX7_copyRow.desc).map (fun d => d.parameters.length) = some 2 := by decide +kernel

set_option maxHeartbeats 4000000 in
set_option maxRecDepth 100000 in
theorem c_X7_copyRow (l : Launch) (D : va_G) (cI cC cM : ClassId) (aa ab : Nat) (n nn : Nat) (f : (Nat → Int32)) (g : (Nat → Int32)) (g' : (Nat → Int32)) (hF : f_X7_copyRow n nn f g = some g') : CV l D cI cC cM yX7_copyRow wsX7_copyRow rm_X7_copyRow [.ref aa, .ref ab] [(aa, .inl (cI, n, .inl f)), (ab, .inl (cI, nn, .inl g))] [(aa, .inl (cI, n, .inl f)), (ab, .inl (cI, nn, .inl g'))] := by
  refine CV.of (cc := cX7_copyRow) (nL := 3) (ret := none) (by decide) rfl (Nat.le_of_ble_eq_true rfl) ?_
  intro p e s m args below meth c A hC hP hD hS ls hl
  obtain ⟨hx, hb, hml, hown, hts, hr, hlk, hG, hA⟩ := id hC
  have hown : s.vm.findClass RX7 = some m.cls := hown
  have hK := hG.1
  have hl : lv_has ls 3 [(0, .ref aa), (1, .ref ab)] := hl
  obtain ⟨Q, hQ⟩ : ∃ Q, Q = MQ below (QV D [(aa, .inl (cI, n, .inl f)), (ab, .inl (cI, nn, .inl g'))] A) args s 0 0 A := ⟨_, rfl⟩
  rw [← hQ]
  unfold f_X7_copyRow at hF
  refine lv_iconst (v := (0 : Int32)) hx hb dX7_copyRow_0 (by decide) ?_
  refine lv_istore_n (lv' := [(2, .int (0 : Int32)), (0, .ref aa), (1, .ref ab)]) hx hb dX7_copyRow_1 rfl hl (by decide) rfl (fun ls hl => ?_)
  have hL2 : ∀ (k2 : Int32 → (Nat → Int32) → Option (Nat → Int32)), (∀ (v1 : Int32) (g_2 : (Nat → Int32)) (H : Heap) (locs : List Loc), va_P D vwCl [(aa, .inl (cI, n, .inl f)), (ab, .inl (cI, nn, .inl g_2))] H → va_D A [(aa, .inl (cI, n, .inl f)), (ab, .inl (cI, nn, .inl g_2))] → va_S A s.heap H locs → ∀ ls : Array Slot, lv_has ls 3 [] → k2 v1 g_2 = some g' → W p l e rm_X7_copyRow s m args below meth c H locs 0 0 Q (F0 m 26 ls [])) → ∀ (nf2 : Nat) (v1 : Int32) (g_2 : (Nat → Int32)) (H : Heap) (locs : List Loc), va_P D vwCl [(aa, .inl (cI, n, .inl f)), (ab, .inl (cI, nn, .inl g_2))] H → va_D A [(aa, .inl (cI, n, .inl f)), (ab, .inl (cI, nn, .inl g_2))] → va_S A s.heap H locs → ∀ ls : Array Slot, lv_has ls 3 [(2, .int v1), (0, .ref aa), (1, .ref ab)] → f_X7_copyRow_L2 n nn f k2 nf2 v1 g_2 = some g' → W p l e rm_X7_copyRow s m args below meth c H locs 0 0 Q (F0 m 2 ls []) := by
    intro k2 hk2 nf2
    induction nf2 with
    | zero =>
      intro v1 g_2 H locs hP hD hS ls hl hF
      rw [f_X7_copyRow_L2_0] at hF
      cases hF
    | succ nf2 ih2 =>
      intro v1 g_2 H locs hP hD hS ls hl hF
      rw [f_X7_copyRow_L2_s] at hF
      refine lv_iload_n hx hb dX7_copyRow_2 rfl (lv_at hl 0 rfl) ?_
      refine lv_aload_n hx hb dX7_copyRow_3 rfl (lv_at hl 1 rfl) ?_
      refine va_alen hx hb hK hP 0 0 rfl rfl (v := (nI n)) rfl dX7_copyRow_4 ?_
      refine lv_icmp_ge (tgt := 26) hx hb dX7_copyRow_5 (by decide) (fun c3 => ?_) (fun c3 => ?_)
      · have hF := op_pos c3 hF
        exact hk2 v1 g_2 _ _ hP hD hS _ (lv_sub hl [] rfl) hF
      · have hF := op_neg c3 hF
        refine lv_iload_n hx hb dX7_copyRow_8 rfl (lv_at hl 0 rfl) ?_
        refine lv_aload_n hx hb dX7_copyRow_9 rfl (lv_at hl 2 rfl) ?_
        refine va_alen hx hb hK hP 1 0 rfl rfl (v := (nI nn)) rfl dX7_copyRow_10 ?_
        refine lv_icmp_ge (tgt := 26) hx hb dX7_copyRow_11 (by decide) (fun c4 => ?_) (fun c4 => ?_)
        · have hF := op_pos c4 hF
          exact hk2 v1 g_2 _ _ hP hD hS _ (lv_sub hl [] rfl) hF
        · have hF := op_neg c4 hF
          refine lv_aload_n hx hb dX7_copyRow_14 rfl (lv_at hl 2 rfl) ?_
          refine lv_iload_n hx hb dX7_copyRow_15 rfl (lv_at hl 0 rfl) ?_
          refine lv_aload_n hx hb dX7_copyRow_16 rfl (lv_at hl 1 rfl) ?_
          refine lv_iload_n hx hb dX7_copyRow_17 rfl (lv_at hl 0 rfl) ?_
          obtain ⟨o5, hF⟩ := op_ob hF
          refine va_iald hx hb hK hP 0 0 rfl rfl (okb_in o5) dX7_copyRow_18 ?_
          obtain ⟨o6, hF⟩ := op_ob hF
          refine va_iast hx hb hK hP hD hS 1 0 rfl rfl (okb_in o6) dX7_copyRow_19 (fun H locs hP hD hS => ?_)
          have hP : va_P D vwCl [(aa, .inl (cI, n, .inl f)), (ab, .inl (cI, nn, .inl (upd g_2 v1.toNatClampNeg (f v1.toNatClampNeg))))] H := hP
          have hD : va_D A [(aa, .inl (cI, n, .inl f)), (ab, .inl (cI, nn, .inl (upd g_2 v1.toNatClampNeg (f v1.toNatClampNeg))))] := hD
          refine lv_iinc (v := (v1 + (1 : Int32))) (lv' := [(2, .int (v1 + (1 : Int32))), (0, .ref aa), (1, .ref ab)]) hx hb dX7_copyRow_20 hl (k := 0) rfl (by first | rfl | decide) (by decide) rfl (fun ls hl => ?_)
          refine lv_goto (tgt := 2) hx hb dX7_copyRow_23 (by decide) ?_
          exact ih2 (v1 + (1 : Int32)) (upd g_2 v1.toNatClampNeg (f v1.toNatClampNeg)) _ _ hP hD hS _ (lv_sub hl [0, 1, 2] rfl) hF
  refine hL2 _ (fun v1 g_2 H locs hP hD hS ls hl hF => ?_) 20000 (0 : Int32) g _ _ hP hD hS _ (lv_sub hl [0, 1, 2] rfl) hF
  cases hF
  rw [hQ]
  exact xrv hC hP hS dX7_copyRow_26

def f_X7_hasBit (b : Int32) (i : Int32) : Option Int32 := (if ((b >>> (i &&& 31)) &&& (1 : Int32)) = (1 : Int32) then (some (1 : Int32)) else (some (0 : Int32)))

def rm_X7_hasBit : Room := { frames := 0, cells := 0, slots := 0, locals := 0 }

theorem pd_X7_hasBit : yX7_hasBit.cls ≠ "java/lang/invoke/MethodHandle" ∧ yX7_hasBit.cls ≠ "java/lang/invoke/VarHandle" ∧ (parseMethodDescriptor yX7_hasBit.desc).map (fun d => d.parameters.length) = some 2 := by decide +kernel

set_option maxHeartbeats 4000000 in
set_option maxRecDepth 100000 in
theorem c_X7_hasBit (l : Launch) (D : va_G) (cI cC cM : ClassId) (b : Int32) (i : Int32) (rr : Int32) (hF : f_X7_hasBit b i = some rr) : CI l D cI cC cM yX7_hasBit wsX7_hasBit rm_X7_hasBit [.int b, .int i] [] [] rr := by
  refine CI.of (cc := cX7_hasBit) (nL := 2) (ret := (some .boolean)) (by decide) rfl (Nat.le_of_ble_eq_true rfl) ?_
  intro p e s m args below meth c A hC hP hD hS ls hl
  obtain ⟨hx, hb, hml, hown, hts, hr, hlk, hG, hA⟩ := id hC
  have hown : s.vm.findClass RX7 = some m.cls := hown
  have hK := hG.1
  have hl : lv_has ls 2 [(0, .int b), (1, .int i)] := hl
  obtain ⟨Q, hQ⟩ : ∃ Q, Q = MQ below (QI D [] rr A) args s 0 0 A := ⟨_, rfl⟩
  rw [← hQ]
  unfold f_X7_hasBit at hF
  refine lv_iload_n hx hb dX7_hasBit_0 rfl (lv_at hl 0 rfl) ?_
  refine lv_iload_n hx hb dX7_hasBit_1 rfl (lv_at hl 1 rfl) ?_
  refine lv_ishr hx hb dX7_hasBit_2 ?_
  refine lv_iconst (v := (1 : Int32)) hx hb dX7_hasBit_3 (by decide) ?_
  refine lv_iand hx hb dX7_hasBit_4 ?_
  refine lv_iconst (v := (1 : Int32)) hx hb dX7_hasBit_5 (by decide) ?_
  refine lv_icmp_ne (tgt := 13) hx hb dX7_hasBit_6 (by decide) (fun c1 => ?_) (fun c1 => ?_)
  · have hF := op_neg c1 hF
    refine lv_iconst (v := (0 : Int32)) hx hb dX7_hasBit_13 (by decide) ?_
    cases hF
    rw [hQ]
    exact xrz hC rfl hP hS dX7_hasBit_14
  · have hF := op_pos c1 hF
    refine lv_iconst (v := (1 : Int32)) hx hb dX7_hasBit_9 (by decide) ?_
    refine lv_goto (tgt := 14) hx hb dX7_hasBit_10 (by decide) ?_
    cases hF
    rw [hQ]
    exact xrz hC rfl hP hS dX7_hasBit_14

def f_X7_modulo (i : Int32) (j : Int32) : Option Int32 := (if j ≤ 0 then (some (0 : Int32)) else (if j = 0 then none else (some (jrem i j))))

def rm_X7_modulo : Room := { frames := 0, cells := 0, slots := 0, locals := 0 }

theorem pd_X7_modulo : yX7_modulo.cls ≠ "java/lang/invoke/MethodHandle" ∧ yX7_modulo.cls ≠ "java/lang/invoke/VarHandle" ∧ (parseMethodDescriptor yX7_modulo.desc).map (fun d => d.parameters.length) = some 2 := by decide +kernel

set_option maxHeartbeats 4000000 in
set_option maxRecDepth 100000 in
theorem c_X7_modulo (l : Launch) (D : va_G) (cI cC cM : ClassId) (i : Int32) (j : Int32) (rr : Int32) (hF : f_X7_modulo i j = some rr) : CI l D cI cC cM yX7_modulo wsX7_modulo rm_X7_modulo [.int i, .int j] [] [] rr := by
  refine CI.of (cc := cX7_modulo) (nL := 2) (ret := (some .int)) (by decide) rfl (Nat.le_of_ble_eq_true rfl) ?_
  intro p e s m args below meth c A hC hP hD hS ls hl
  obtain ⟨hx, hb, hml, hown, hts, hr, hlk, hG, hA⟩ := id hC
  have hown : s.vm.findClass RX7 = some m.cls := hown
  have hK := hG.1
  have hl : lv_has ls 2 [(0, .int i), (1, .int j)] := hl
  obtain ⟨Q, hQ⟩ : ∃ Q, Q = MQ below (QI D [] rr A) args s 0 0 A := ⟨_, rfl⟩
  rw [← hQ]
  unfold f_X7_modulo at hF
  refine lv_iload_n hx hb dX7_modulo_0 rfl (lv_at hl 1 rfl) ?_
  refine lv_if_le (tgt := 10) hx hb dX7_modulo_1 (by decide) (fun c1 => ?_) (fun c1 => ?_)
  · have hF := op_pos c1 hF
    refine lv_iconst (v := (0 : Int32)) hx hb dX7_modulo_10 (by decide) ?_
    cases hF
    rw [hQ]
    exact xri hC hP hS dX7_modulo_11
  · have hF := op_neg c1 hF
    refine lv_iload_n hx hb dX7_modulo_4 rfl (lv_at hl 0 rfl) ?_
    refine lv_iload_n hx hb dX7_modulo_5 rfl (lv_at hl 1 rfl) ?_
    obtain ⟨n2, hF⟩ := op_nz hF
    refine lv_irem hx hb dX7_modulo_6 n2 ?_
    refine lv_goto (tgt := 11) hx hb dX7_modulo_7 (by decide) ?_
    cases hF
    rw [hQ]
    exact xri hC hP hS dX7_modulo_11

def f_X7_evenHours (i : Int32) (n : Int32) : Option Int32 := (some (((n + (1 : Int32)) - (jrem i (2 : Int32))) / (2 : Int32)))

def rm_X7_evenHours : Room := { frames := 0, cells := 0, slots := 0, locals := 0 }

theorem pd_X7_evenHours : yX7_evenHours.cls ≠ "java/lang/invoke/MethodHandle" ∧ yX7_evenHours.cls ≠ "java/lang/invoke/VarHandle" ∧ (parseMethodDescriptor yX7_evenHours.desc).map (fun d => d.parameters.length) = some 2 := by decide +kernel

set_option maxHeartbeats 4000000 in
set_option maxRecDepth 100000 in
theorem c_X7_evenHours (l : Launch) (D : va_G) (cI cC cM : ClassId) (i : Int32) (n : Int32) (rr : Int32) (hF : f_X7_evenHours i n = some rr) : CI l D cI cC cM yX7_evenHours wsX7_evenHours rm_X7_evenHours [.int i, .int n] [] [] rr := by
  refine CI.of (cc := cX7_evenHours) (nL := 2) (ret := (some .int)) (by decide) rfl (Nat.le_of_ble_eq_true rfl) ?_
  intro p e s m args below meth c A hC hP hD hS ls hl
  obtain ⟨hx, hb, hml, hown, hts, hr, hlk, hG, hA⟩ := id hC
  have hown : s.vm.findClass RX7 = some m.cls := hown
  have hK := hG.1
  have hl : lv_has ls 2 [(0, .int i), (1, .int n)] := hl
  obtain ⟨Q, hQ⟩ : ∃ Q, Q = MQ below (QI D [] rr A) args s 0 0 A := ⟨_, rfl⟩
  rw [← hQ]
  unfold f_X7_evenHours at hF
  refine lv_iload_n hx hb dX7_evenHours_0 rfl (lv_at hl 1 rfl) ?_
  refine lv_iconst (v := (1 : Int32)) hx hb dX7_evenHours_1 (by decide) ?_
  refine lv_iadd hx hb dX7_evenHours_2 ?_
  refine lv_iload_n hx hb dX7_evenHours_3 rfl (lv_at hl 0 rfl) ?_
  refine lv_iconst (v := (2 : Int32)) hx hb dX7_evenHours_4 (by decide) ?_
  refine lv_irem hx hb dX7_evenHours_5 (by decide) ?_
  refine lv_isub hx hb dX7_evenHours_6 ?_
  refine lv_iconst (v := (2 : Int32)) hx hb dX7_evenHours_7 (by decide) ?_
  refine lv_idiv hx hb dX7_evenHours_8 (by decide) ?_
  cases hF
  rw [hQ]
  exact xri hC hP hS dX7_evenHours_9

def f_X7_turnsOf (k : Int32) (i : Int32) (n : Int32) : Option Int32 := (if k = (2 : Int32) then (Option.bind (f_X7_evenHours i n) fun r2 => (some r2)) else (some n))

def rm_X7_turnsOf : Room := { frames := 1, cells := 0, slots := 0, locals := 21 }

theorem pd_X7_turnsOf : yX7_turnsOf.cls ≠ "java/lang/invoke/MethodHandle" ∧ yX7_turnsOf.cls ≠ "java/lang/invoke/VarHandle" ∧ (parseMethodDescriptor yX7_turnsOf.desc).map (fun d => d.parameters.length) = some 3 := by decide +kernel

set_option maxHeartbeats 4000000 in
set_option maxRecDepth 100000 in
theorem c_X7_turnsOf (l : Launch) (D : va_G) (cI cC cM : ClassId) (k : Int32) (i : Int32) (n : Int32) (rr : Int32) (hF : f_X7_turnsOf k i n = some rr) : CI l D cI cC cM yX7_turnsOf wsX7_turnsOf rm_X7_turnsOf [.int k, .int i, .int n] [] [] rr := by
  refine CI.of (cc := cX7_turnsOf) (nL := 3) (ret := (some .int)) (by decide) rfl (Nat.le_of_ble_eq_true rfl) ?_
  intro p e s m args below meth c A hC hP hD hS ls hl
  obtain ⟨hx, hb, hml, hown, hts, hr, hlk, hG, hA⟩ := id hC
  have hown : s.vm.findClass RX7 = some m.cls := hown
  have hK := hG.1
  have hl : lv_has ls 3 [(0, .int k), (1, .int i), (2, .int n)] := hl
  obtain ⟨Q, hQ⟩ : ∃ Q, Q = MQ below (QI D [] rr A) args s 0 0 A := ⟨_, rfl⟩
  rw [← hQ]
  unfold f_X7_turnsOf at hF
  refine lv_iload_n hx hb dX7_turnsOf_0 rfl (lv_at hl 0 rfl) ?_
  refine lv_iconst (v := (2 : Int32)) hx hb dX7_turnsOf_1 (by decide) ?_
  refine lv_icmp_ne (tgt := 13) hx hb dX7_turnsOf_2 (by decide) (fun c1 => ?_) (fun c1 => ?_)
  · have hF := op_neg c1 hF
    refine lv_iload_n hx hb dX7_turnsOf_13 rfl (lv_at hl 2 rfl) ?_
    cases hF
    rw [hQ]
    exact xri hC hP hS dX7_turnsOf_14
  · have hF := op_pos c1 hF
    refine lv_iload_n hx hb dX7_turnsOf_5 rfl (lv_at hl 1 rfl) ?_
    refine lv_iload_n hx hb dX7_turnsOf_6 rfl (lv_at hl 2 rfl) ?_
    obtain ⟨r2, hb3, hF⟩ := op_bind hF
    refine xSr (As := [.int i, .int n]) (rest := []) hC hP hD hS [] (c_X7_evenHours l D cI cC cM i n r2 hb3) (va_cwS 2 hts gX7_turnsOf_X7_evenHours rfl rfl rfl pd_X7_evenHours ⟨Nat.le_of_ble_eq_true rfl, Nat.le_of_ble_eq_true rfl⟩) rfl rfl rfl hl.1 rfl (Nat.le_of_ble_eq_true rfl) dX7_turnsOf_7 ⟨Nat.zero_le _, Nat.zero_le _⟩ (fun H locs hP hS => ?_)
    refine lv_goto (tgt := 14) hx hb dX7_turnsOf_10 (by decide) ?_
    cases hF
    rw [hQ]
    exact xri hC hP hS dX7_turnsOf_14

def f_X7_turnOf (k : Int32) : Option Int32 := (if k = (3 : Int32) then (some (2 : Int32)) else (some (1 : Int32)))

def rm_X7_turnOf : Room := { frames := 0, cells := 0, slots := 0, locals := 0 }

theorem pd_X7_turnOf : yX7_turnOf.cls ≠ "java/lang/invoke/MethodHandle" ∧ yX7_turnOf.cls ≠ "java/lang/invoke/VarHandle" ∧ (parseMethodDescriptor yX7_turnOf.desc).map (fun d => d.parameters.length) = some 1 := by decide +kernel

set_option maxHeartbeats 4000000 in
set_option maxRecDepth 100000 in
theorem c_X7_turnOf (l : Launch) (D : va_G) (cI cC cM : ClassId) (k : Int32) (rr : Int32) (hF : f_X7_turnOf k = some rr) : CI l D cI cC cM yX7_turnOf wsX7_turnOf rm_X7_turnOf [.int k] [] [] rr := by
  refine CI.of (cc := cX7_turnOf) (nL := 1) (ret := (some .int)) (by decide) rfl (Nat.le_of_ble_eq_true rfl) ?_
  intro p e s m args below meth c A hC hP hD hS ls hl
  obtain ⟨hx, hb, hml, hown, hts, hr, hlk, hG, hA⟩ := id hC
  have hown : s.vm.findClass RX7 = some m.cls := hown
  have hK := hG.1
  have hl : lv_has ls 1 [(0, .int k)] := hl
  obtain ⟨Q, hQ⟩ : ∃ Q, Q = MQ below (QI D [] rr A) args s 0 0 A := ⟨_, rfl⟩
  rw [← hQ]
  unfold f_X7_turnOf at hF
  refine lv_iload_n hx hb dX7_turnOf_0 rfl (lv_at hl 0 rfl) ?_
  refine lv_iconst (v := (3 : Int32)) hx hb dX7_turnOf_1 (by decide) ?_
  refine lv_icmp_ne (tgt := 9) hx hb dX7_turnOf_2 (by decide) (fun c1 => ?_) (fun c1 => ?_)
  · have hF := op_neg c1 hF
    refine lv_iconst (v := (1 : Int32)) hx hb dX7_turnOf_9 (by decide) ?_
    cases hF
    rw [hQ]
    exact xri hC hP hS dX7_turnOf_10
  · have hF := op_pos c1 hF
    refine lv_iconst (v := (2 : Int32)) hx hb dX7_turnOf_5 (by decide) ?_
    refine lv_goto (tgt := 10) hx hb dX7_turnOf_6 (by decide) ?_
    cases hF
    rw [hQ]
    exact xri hC hP hS dX7_turnOf_10

def f_X7_wearOf (k : Int32) (i : Int32) (n : Int32) : Option Int32 := (if k = (1 : Int32) then (Option.bind (f_X7_evenHours i n) fun r2 => (some r2)) else (some n))

def rm_X7_wearOf : Room := { frames := 1, cells := 0, slots := 0, locals := 21 }

theorem pd_X7_wearOf : yX7_wearOf.cls ≠ "java/lang/invoke/MethodHandle" ∧ yX7_wearOf.cls ≠ "java/lang/invoke/VarHandle" ∧ (parseMethodDescriptor yX7_wearOf.desc).map (fun d => d.parameters.length) = some 3 := by decide +kernel

set_option maxHeartbeats 4000000 in
set_option maxRecDepth 100000 in
theorem c_X7_wearOf (l : Launch) (D : va_G) (cI cC cM : ClassId) (k : Int32) (i : Int32) (n : Int32) (rr : Int32) (hF : f_X7_wearOf k i n = some rr) : CI l D cI cC cM yX7_wearOf wsX7_wearOf rm_X7_wearOf [.int k, .int i, .int n] [] [] rr := by
  refine CI.of (cc := cX7_wearOf) (nL := 3) (ret := (some .int)) (by decide) rfl (Nat.le_of_ble_eq_true rfl) ?_
  intro p e s m args below meth c A hC hP hD hS ls hl
  obtain ⟨hx, hb, hml, hown, hts, hr, hlk, hG, hA⟩ := id hC
  have hown : s.vm.findClass RX7 = some m.cls := hown
  have hK := hG.1
  have hl : lv_has ls 3 [(0, .int k), (1, .int i), (2, .int n)] := hl
  obtain ⟨Q, hQ⟩ : ∃ Q, Q = MQ below (QI D [] rr A) args s 0 0 A := ⟨_, rfl⟩
  rw [← hQ]
  unfold f_X7_wearOf at hF
  refine lv_iload_n hx hb dX7_wearOf_0 rfl (lv_at hl 0 rfl) ?_
  refine lv_iconst (v := (1 : Int32)) hx hb dX7_wearOf_1 (by decide) ?_
  refine lv_icmp_ne (tgt := 13) hx hb dX7_wearOf_2 (by decide) (fun c1 => ?_) (fun c1 => ?_)
  · have hF := op_neg c1 hF
    refine lv_iload_n hx hb dX7_wearOf_13 rfl (lv_at hl 2 rfl) ?_
    cases hF
    rw [hQ]
    exact xri hC hP hS dX7_wearOf_14
  · have hF := op_pos c1 hF
    refine lv_iload_n hx hb dX7_wearOf_5 rfl (lv_at hl 1 rfl) ?_
    refine lv_iload_n hx hb dX7_wearOf_6 rfl (lv_at hl 2 rfl) ?_
    obtain ⟨r2, hb3, hF⟩ := op_bind hF
    refine xSr (As := [.int i, .int n]) (rest := []) hC hP hD hS [] (c_X7_evenHours l D cI cC cM i n r2 hb3) (va_cwS 2 hts gX7_wearOf_X7_evenHours rfl rfl rfl pd_X7_evenHours ⟨Nat.le_of_ble_eq_true rfl, Nat.le_of_ble_eq_true rfl⟩) rfl rfl rfl hl.1 rfl (Nat.le_of_ble_eq_true rfl) dX7_wearOf_7 ⟨Nat.zero_le _, Nat.zero_le _⟩ (fun H locs hP hS => ?_)
    refine lv_goto (tgt := 14) hx hb dX7_wearOf_10 (by decide) ?_
    cases hF
    rw [hQ]
    exact xri hC hP hS dX7_wearOf_14

def f_X7_drawOf (z : Int32) (k : Int32) : Option Int32 := (some ((jlrem (((((7919 : Int64) * (z).toInt64) + ((6151 : Int64) * (k).toInt64)) + (1 : Int64)) * ((((7919 : Int64) * (z).toInt64) + ((6151 : Int64) * (k).toInt64)) + (1 : Int64))) (65521 : Int64))).toInt32)

def rm_X7_drawOf : Room := { frames := 0, cells := 0, slots := 0, locals := 0 }

theorem pd_X7_drawOf : yX7_drawOf.cls ≠ "java/lang/invoke/MethodHandle" ∧ yX7_drawOf.cls ≠ "java/lang/invoke/VarHandle" ∧ (parseMethodDescriptor yX7_drawOf.desc).map (fun d => d.parameters.length) = some 2 := by decide +kernel

set_option maxHeartbeats 4000000 in
set_option maxRecDepth 100000 in
theorem c_X7_drawOf (l : Launch) (D : va_G) (cI cC cM : ClassId) (z : Int32) (k : Int32) (rr : Int32) (hF : f_X7_drawOf z k = some rr) : CI l D cI cC cM yX7_drawOf wsX7_drawOf rm_X7_drawOf [.int z, .int k] [] [] rr := by
  refine CI.of (cc := cX7_drawOf) (nL := 4) (ret := (some .int)) (by decide) rfl (Nat.le_of_ble_eq_true rfl) ?_
  intro p e s m args below meth c A hC hP hD hS ls hl
  obtain ⟨hx, hb, hml, hown, hts, hr, hlk, hG, hA⟩ := id hC
  have hown : s.vm.findClass RX7 = some m.cls := hown
  have hK := hG.1
  have hl : lv_has ls 4 [(0, .int z), (1, .int k)] := hl
  have k_cst294 := hts (.constantLong RX7 294 (7919)) (List.mem_of_getElem? (i := 1) rfl)
  have k_cst296 := hts (.constantLong RX7 296 (6151)) (List.mem_of_getElem? (i := 2) rfl)
  have k_cst298 := hts (.constantLong RX7 298 (65521)) (List.mem_of_getElem? (i := 3) rfl)
  obtain ⟨Q, hQ⟩ : ∃ Q, Q = MQ below (QI D [] rr A) args s 0 0 A := ⟨_, rfl⟩
  rw [← hQ]
  unfold f_X7_drawOf at hF
  refine lv_ldc2 (v := (7919 : Int64)) hx hb hown k_cst294 dX7_drawOf_0 ?_
  refine lv_iload_n hx hb dX7_drawOf_3 rfl (lv_at hl 0 rfl) ?_
  refine lv_i2l (v := (z).toInt64) hx hb dX7_drawOf_4 rfl ?_
  refine lv_lmul hx hb dX7_drawOf_5 ?_
  refine lv_ldc2 (v := (6151 : Int64)) hx hb hown k_cst296 dX7_drawOf_6 ?_
  refine lv_iload_n hx hb dX7_drawOf_9 rfl (lv_at hl 1 rfl) ?_
  refine lv_i2l (v := (k).toInt64) hx hb dX7_drawOf_10 rfl ?_
  refine lv_lmul hx hb dX7_drawOf_11 ?_
  refine lv_ladd hx hb dX7_drawOf_12 ?_
  refine lv_lconst (v := (1 : Int64)) hx hb dX7_drawOf_13 (by decide) ?_
  refine lv_ladd hx hb dX7_drawOf_14 ?_
  refine lv_lstore_n (lv' := [(2, .long ((((7919 : Int64) * (z).toInt64) + ((6151 : Int64) * (k).toInt64)) + (1 : Int64))), (0, .int z), (1, .int k)]) hx hb dX7_drawOf_15 rfl hl (by decide) rfl (fun ls hl => ?_)
  refine lv_lload_n hx hb dX7_drawOf_16 rfl (lv_at hl 0 rfl) ?_
  refine lv_lload_n hx hb dX7_drawOf_17 rfl (lv_at hl 0 rfl) ?_
  refine lv_lmul hx hb dX7_drawOf_18 ?_
  refine lv_ldc2 (v := (65521 : Int64)) hx hb hown k_cst298 dX7_drawOf_19 ?_
  refine lv_lrem hx hb dX7_drawOf_22 (by decide) ?_
  refine lv_l2i (v := ((jlrem (((((7919 : Int64) * (z).toInt64) + ((6151 : Int64) * (k).toInt64)) + (1 : Int64)) * ((((7919 : Int64) * (z).toInt64) + ((6151 : Int64) * (k).toInt64)) + (1 : Int64))) (65521 : Int64))).toInt32) hx hb dX7_drawOf_23 rfl ?_
  cases hF
  rw [hQ]
  exact xri hC hP hS dX7_drawOf_24

def f_X7_power_L4 (n : Int32) (b : Int32) (k4 : Int32 → Int32 → Option Int32) : Nat → Int32 → Int32 → Option Int32
  | 0, _, _ => none
  | nf4 + 1, v1, v2 => (if n ≤ v2 then (k4 v1 v2) else (f_X7_power_L4 n b k4 nf4 (v1 * b) (v2 + (1 : Int32))))
theorem f_X7_power_L4_0 (n : Int32) (b : Int32) (k4 : Int32 → Int32 → Option Int32) (v1 : Int32) (v2 : Int32) : f_X7_power_L4 n b k4 0 v1 v2 = none := rfl
theorem f_X7_power_L4_s (n : Int32) (b : Int32) (k4 : Int32 → Int32 → Option Int32) (nf4 : Nat) (v1 : Int32) (v2 : Int32) : f_X7_power_L4 n b k4 (nf4 + 1) v1 v2 = (if n ≤ v2 then (k4 v1 v2) else (f_X7_power_L4 n b k4 nf4 (v1 * b) (v2 + (1 : Int32)))) := rfl

def f_X7_power (b : Int32) (n : Int32) : Option Int32 := (f_X7_power_L4 n b (fun (v1 : Int32) (v2 : Int32) => (some v1)) 20000 (1 : Int32) (0 : Int32))

def rm_X7_power : Room := { frames := 0, cells := 0, slots := 0, locals := 0 }

theorem pd_X7_power : yX7_power.cls ≠ "java/lang/invoke/MethodHandle" ∧ yX7_power.cls ≠ "java/lang/invoke/VarHandle" ∧ (parseMethodDescriptor yX7_power.desc).map (fun d => d.parameters.length) = some 2 := by decide +kernel

set_option maxHeartbeats 4000000 in
set_option maxRecDepth 100000 in
theorem c_X7_power (l : Launch) (D : va_G) (cI cC cM : ClassId) (b : Int32) (n : Int32) (rr : Int32) (hF : f_X7_power b n = some rr) : CI l D cI cC cM yX7_power wsX7_power rm_X7_power [.int b, .int n] [] [] rr := by
  refine CI.of (cc := cX7_power) (nL := 4) (ret := (some .int)) (by decide) rfl (Nat.le_of_ble_eq_true rfl) ?_
  intro p e s m args below meth c A hC hP hD hS ls hl
  obtain ⟨hx, hb, hml, hown, hts, hr, hlk, hG, hA⟩ := id hC
  have hown : s.vm.findClass RX7 = some m.cls := hown
  have hK := hG.1
  have hl : lv_has ls 4 [(0, .int b), (1, .int n)] := hl
  obtain ⟨Q, hQ⟩ : ∃ Q, Q = MQ below (QI D [] rr A) args s 0 0 A := ⟨_, rfl⟩
  rw [← hQ]
  unfold f_X7_power at hF
  refine lv_iconst (v := (1 : Int32)) hx hb dX7_power_0 (by decide) ?_
  refine lv_istore_n (lv' := [(2, .int (1 : Int32)), (0, .int b), (1, .int n)]) hx hb dX7_power_1 rfl hl (by decide) rfl (fun ls hl => ?_)
  refine lv_iconst (v := (0 : Int32)) hx hb dX7_power_2 (by decide) ?_
  refine lv_istore_n (lv' := [(3, .int (0 : Int32)), (2, .int (1 : Int32)), (0, .int b), (1, .int n)]) hx hb dX7_power_3 rfl hl (by decide) rfl (fun ls hl => ?_)
  have hL4 : ∀ (k4 : Int32 → Int32 → Option Int32), (∀ (v1 : Int32) (v2 : Int32) (H : Heap) (locs : List Loc), va_P D vwCl [] H → va_D A [] → va_S A s.heap H locs → ∀ ls : Array Slot, lv_has ls 4 [(2, .int v1)] → k4 v1 v2 = some rr → W p l e rm_X7_power s m args below meth c H locs 0 0 Q (F0 m 19 ls [])) → ∀ (nf4 : Nat) (v1 : Int32) (v2 : Int32) (H : Heap) (locs : List Loc), va_P D vwCl [] H → va_D A [] → va_S A s.heap H locs → ∀ ls : Array Slot, lv_has ls 4 [(3, .int v2), (2, .int v1), (0, .int b), (1, .int n)] → f_X7_power_L4 n b k4 nf4 v1 v2 = some rr → W p l e rm_X7_power s m args below meth c H locs 0 0 Q (F0 m 4 ls []) := by
    intro k4 hk4 nf4
    induction nf4 with
    | zero =>
      intro v1 v2 H locs hP hD hS ls hl hF
      rw [f_X7_power_L4_0] at hF
      cases hF
    | succ nf4 ih4 =>
      intro v1 v2 H locs hP hD hS ls hl hF
      rw [f_X7_power_L4_s] at hF
      refine lv_iload_n hx hb dX7_power_4 rfl (lv_at hl 0 rfl) ?_
      refine lv_iload_n hx hb dX7_power_5 rfl (lv_at hl 3 rfl) ?_
      refine lv_icmp_ge (tgt := 19) hx hb dX7_power_6 (by decide) (fun c3 => ?_) (fun c3 => ?_)
      · have hF := op_pos c3 hF
        exact hk4 v1 v2 _ _ hP hD hS _ (lv_sub hl [1] rfl) hF
      · have hF := op_neg c3 hF
        refine lv_iload_n hx hb dX7_power_9 rfl (lv_at hl 1 rfl) ?_
        refine lv_iload_n hx hb dX7_power_10 rfl (lv_at hl 2 rfl) ?_
        refine lv_imul hx hb dX7_power_11 ?_
        refine lv_istore_n (lv' := [(2, .int (v1 * b)), (3, .int v2), (0, .int b), (1, .int n)]) hx hb dX7_power_12 rfl hl (by decide) rfl (fun ls hl => ?_)
        refine lv_iinc (v := (v2 + (1 : Int32))) (lv' := [(3, .int (v2 + (1 : Int32))), (2, .int (v1 * b)), (0, .int b), (1, .int n)]) hx hb dX7_power_13 hl (k := 1) rfl (by first | rfl | decide) (by decide) rfl (fun ls hl => ?_)
        refine lv_goto (tgt := 4) hx hb dX7_power_16 (by decide) ?_
        exact ih4 (v1 * b) (v2 + (1 : Int32)) _ _ hP hD hS _ (lv_sub hl [0, 1, 2, 3] rfl) hF
  refine hL4 _ (fun v1 v2 H locs hP hD hS ls hl hF => ?_) 20000 (1 : Int32) (0 : Int32) _ _ hP hD hS _ (lv_sub hl [0, 1, 2, 3] rfl) hF
  refine lv_iload_n hx hb dX7_power_19 rfl (lv_at hl 0 rfl) ?_
  cases hF
  rw [hQ]
  exact xri hC hP hS dX7_power_20

def f_X7_choicesOf_L4 (i : Int32) (n : Int32) (k4 : Int32 → Int32 → Option Int32) : Nat → Int32 → Int32 → Option Int32
  | 0, _, _ => none
  | nf4 + 1, v1, v2 => (if i ≤ v2 then (k4 v1 v2) else (if (v2 + (1 : Int32)) = 0 then none else (f_X7_choicesOf_L4 i n k4 nf4 ((v1 * (n - v2)) / (v2 + (1 : Int32))) (v2 + (1 : Int32)))))
theorem f_X7_choicesOf_L4_0 (i : Int32) (n : Int32) (k4 : Int32 → Int32 → Option Int32) (v1 : Int32) (v2 : Int32) : f_X7_choicesOf_L4 i n k4 0 v1 v2 = none := rfl
theorem f_X7_choicesOf_L4_s (i : Int32) (n : Int32) (k4 : Int32 → Int32 → Option Int32) (nf4 : Nat) (v1 : Int32) (v2 : Int32) : f_X7_choicesOf_L4 i n k4 (nf4 + 1) v1 v2 = (if i ≤ v2 then (k4 v1 v2) else (if (v2 + (1 : Int32)) = 0 then none else (f_X7_choicesOf_L4 i n k4 nf4 ((v1 * (n - v2)) / (v2 + (1 : Int32))) (v2 + (1 : Int32))))) := rfl

def f_X7_choicesOf (i : Int32) (n : Int32) : Option Int32 := (f_X7_choicesOf_L4 i n (fun (v1 : Int32) (v2 : Int32) => (some v1)) 20000 (1 : Int32) (0 : Int32))

def rm_X7_choicesOf : Room := { frames := 0, cells := 0, slots := 0, locals := 0 }

theorem pd_X7_choicesOf : yX7_choicesOf.cls ≠ "java/lang/invoke/MethodHandle" ∧ yX7_choicesOf.cls ≠ "java/lang/invoke/VarHandle" ∧ (parseMethodDescriptor yX7_choicesOf.desc).map (fun d => d.parameters.length) = some 2 := by decide +kernel

set_option maxHeartbeats 4000000 in
set_option maxRecDepth 100000 in
theorem c_X7_choicesOf (l : Launch) (D : va_G) (cI cC cM : ClassId) (i : Int32) (n : Int32) (rr : Int32) (hF : f_X7_choicesOf i n = some rr) : CI l D cI cC cM yX7_choicesOf wsX7_choicesOf rm_X7_choicesOf [.int i, .int n] [] [] rr := by
  refine CI.of (cc := cX7_choicesOf) (nL := 4) (ret := (some .int)) (by decide) rfl (Nat.le_of_ble_eq_true rfl) ?_
  intro p e s m args below meth c A hC hP hD hS ls hl
  obtain ⟨hx, hb, hml, hown, hts, hr, hlk, hG, hA⟩ := id hC
  have hown : s.vm.findClass RX7 = some m.cls := hown
  have hK := hG.1
  have hl : lv_has ls 4 [(0, .int i), (1, .int n)] := hl
  obtain ⟨Q, hQ⟩ : ∃ Q, Q = MQ below (QI D [] rr A) args s 0 0 A := ⟨_, rfl⟩
  rw [← hQ]
  unfold f_X7_choicesOf at hF
  refine lv_iconst (v := (1 : Int32)) hx hb dX7_choicesOf_0 (by decide) ?_
  refine lv_istore_n (lv' := [(2, .int (1 : Int32)), (0, .int i), (1, .int n)]) hx hb dX7_choicesOf_1 rfl hl (by decide) rfl (fun ls hl => ?_)
  refine lv_iconst (v := (0 : Int32)) hx hb dX7_choicesOf_2 (by decide) ?_
  refine lv_istore_n (lv' := [(3, .int (0 : Int32)), (2, .int (1 : Int32)), (0, .int i), (1, .int n)]) hx hb dX7_choicesOf_3 rfl hl (by decide) rfl (fun ls hl => ?_)
  have hL4 : ∀ (k4 : Int32 → Int32 → Option Int32), (∀ (v1 : Int32) (v2 : Int32) (H : Heap) (locs : List Loc), va_P D vwCl [] H → va_D A [] → va_S A s.heap H locs → ∀ ls : Array Slot, lv_has ls 4 [(2, .int v1)] → k4 v1 v2 = some rr → W p l e rm_X7_choicesOf s m args below meth c H locs 0 0 Q (F0 m 25 ls [])) → ∀ (nf4 : Nat) (v1 : Int32) (v2 : Int32) (H : Heap) (locs : List Loc), va_P D vwCl [] H → va_D A [] → va_S A s.heap H locs → ∀ ls : Array Slot, lv_has ls 4 [(3, .int v2), (2, .int v1), (0, .int i), (1, .int n)] → f_X7_choicesOf_L4 i n k4 nf4 v1 v2 = some rr → W p l e rm_X7_choicesOf s m args below meth c H locs 0 0 Q (F0 m 4 ls []) := by
    intro k4 hk4 nf4
    induction nf4 with
    | zero =>
      intro v1 v2 H locs hP hD hS ls hl hF
      rw [f_X7_choicesOf_L4_0] at hF
      cases hF
    | succ nf4 ih4 =>
      intro v1 v2 H locs hP hD hS ls hl hF
      rw [f_X7_choicesOf_L4_s] at hF
      refine lv_iload_n hx hb dX7_choicesOf_4 rfl (lv_at hl 0 rfl) ?_
      refine lv_iload_n hx hb dX7_choicesOf_5 rfl (lv_at hl 2 rfl) ?_
      refine lv_icmp_ge (tgt := 25) hx hb dX7_choicesOf_6 (by decide) (fun c3 => ?_) (fun c3 => ?_)
      · have hF := op_pos c3 hF
        exact hk4 v1 v2 _ _ hP hD hS _ (lv_sub hl [1] rfl) hF
      · have hF := op_neg c3 hF
        refine lv_iload_n hx hb dX7_choicesOf_9 rfl (lv_at hl 1 rfl) ?_
        refine lv_iload_n hx hb dX7_choicesOf_10 rfl (lv_at hl 3 rfl) ?_
        refine lv_iload_n hx hb dX7_choicesOf_11 rfl (lv_at hl 0 rfl) ?_
        refine lv_isub hx hb dX7_choicesOf_12 ?_
        refine lv_imul hx hb dX7_choicesOf_13 ?_
        refine lv_iload_n hx hb dX7_choicesOf_14 rfl (lv_at hl 0 rfl) ?_
        refine lv_iconst (v := (1 : Int32)) hx hb dX7_choicesOf_15 (by decide) ?_
        refine lv_iadd hx hb dX7_choicesOf_16 ?_
        obtain ⟨n4, hF⟩ := op_nz hF
        refine lv_idiv hx hb dX7_choicesOf_17 n4 ?_
        refine lv_istore_n (lv' := [(2, .int ((v1 * (n - v2)) / (v2 + (1 : Int32)))), (3, .int v2), (0, .int i), (1, .int n)]) hx hb dX7_choicesOf_18 rfl hl (by decide) rfl (fun ls hl => ?_)
        refine lv_iinc (v := (v2 + (1 : Int32))) (lv' := [(3, .int (v2 + (1 : Int32))), (2, .int ((v1 * (n - v2)) / (v2 + (1 : Int32)))), (0, .int i), (1, .int n)]) hx hb dX7_choicesOf_19 hl (k := 1) rfl (by first | rfl | decide) (by decide) rfl (fun ls hl => ?_)
        refine lv_goto (tgt := 4) hx hb dX7_choicesOf_22 (by decide) ?_
        exact ih4 ((v1 * (n - v2)) / (v2 + (1 : Int32))) (v2 + (1 : Int32)) _ _ hP hD hS _ (lv_sub hl [0, 1, 2, 3] rfl) hF
  refine hL4 _ (fun v1 v2 H locs hP hD hS ls hl hF => ?_) 20000 (1 : Int32) (0 : Int32) _ _ hP hD hS _ (lv_sub hl [0, 1, 2, 3] rfl) hF
  refine lv_iload_n hx hb dX7_choicesOf_25 rfl (lv_at hl 0 rfl) ?_
  cases hF
  rw [hQ]
  exact xri hC hP hS dX7_choicesOf_26

def f_J6_bitCount_0f7a4 (i : Int32) : Option Int32 := (some ((((((((i - ((jushr i (1 : Int32)) &&& (1431655765 : Int32))) &&& (858993459 : Int32)) + ((jushr (i - ((jushr i (1 : Int32)) &&& (1431655765 : Int32))) (2 : Int32)) &&& (858993459 : Int32))) + (jushr (((i - ((jushr i (1 : Int32)) &&& (1431655765 : Int32))) &&& (858993459 : Int32)) + ((jushr (i - ((jushr i (1 : Int32)) &&& (1431655765 : Int32))) (2 : Int32)) &&& (858993459 : Int32))) (4 : Int32))) &&& (252645135 : Int32)) + (jushr (((((i - ((jushr i (1 : Int32)) &&& (1431655765 : Int32))) &&& (858993459 : Int32)) + ((jushr (i - ((jushr i (1 : Int32)) &&& (1431655765 : Int32))) (2 : Int32)) &&& (858993459 : Int32))) + (jushr (((i - ((jushr i (1 : Int32)) &&& (1431655765 : Int32))) &&& (858993459 : Int32)) + ((jushr (i - ((jushr i (1 : Int32)) &&& (1431655765 : Int32))) (2 : Int32)) &&& (858993459 : Int32))) (4 : Int32))) &&& (252645135 : Int32)) (8 : Int32))) + (jushr ((((((i - ((jushr i (1 : Int32)) &&& (1431655765 : Int32))) &&& (858993459 : Int32)) + ((jushr (i - ((jushr i (1 : Int32)) &&& (1431655765 : Int32))) (2 : Int32)) &&& (858993459 : Int32))) + (jushr (((i - ((jushr i (1 : Int32)) &&& (1431655765 : Int32))) &&& (858993459 : Int32)) + ((jushr (i - ((jushr i (1 : Int32)) &&& (1431655765 : Int32))) (2 : Int32)) &&& (858993459 : Int32))) (4 : Int32))) &&& (252645135 : Int32)) + (jushr (((((i - ((jushr i (1 : Int32)) &&& (1431655765 : Int32))) &&& (858993459 : Int32)) + ((jushr (i - ((jushr i (1 : Int32)) &&& (1431655765 : Int32))) (2 : Int32)) &&& (858993459 : Int32))) + (jushr (((i - ((jushr i (1 : Int32)) &&& (1431655765 : Int32))) &&& (858993459 : Int32)) + ((jushr (i - ((jushr i (1 : Int32)) &&& (1431655765 : Int32))) (2 : Int32)) &&& (858993459 : Int32))) (4 : Int32))) &&& (252645135 : Int32)) (8 : Int32))) (16 : Int32))) &&& (63 : Int32)))

def rm_J6_bitCount_0f7a4 : Room := { frames := 0, cells := 0, slots := 0, locals := 0 }

theorem pd_J6_bitCount_0f7a4 : yJ6_bitCount_0f7a4.cls ≠ "java/lang/invoke/MethodHandle" ∧ yJ6_bitCount_0f7a4.cls ≠ "java/lang/invoke/VarHandle" ∧ (parseMethodDescriptor yJ6_bitCount_0f7a4.desc).map (fun d => d.parameters.length) = some 1 := by decide +kernel

set_option maxHeartbeats 4000000 in
set_option maxRecDepth 100000 in
theorem c_J6_bitCount_0f7a4 (l : Launch) (D : va_G) (cI cC cM : ClassId) (i : Int32) (rr : Int32) (hF : f_J6_bitCount_0f7a4 i = some rr) : CI l D cI cC cM yJ6_bitCount_0f7a4 wsJ6_bitCount_0f7a4 rm_J6_bitCount_0f7a4 [.int i] [] [] rr := by
  refine CI.of (cc := cJ6_bitCount_0f7a4) (nL := 1) (ret := (some .int)) (by decide) rfl (Nat.le_of_ble_eq_true rfl) ?_
  intro p e s m args below meth c A hC hP hD hS ls hl
  obtain ⟨hx, hb, hml, hown, hts, hr, hlk, hG, hA⟩ := id hC
  have hown : s.vm.findClass RJ6 = some m.cls := hown
  have hK := hG.1
  have hl : lv_has ls 1 [(0, .int i)] := hl
  have k_cst265 := hts (.constant RJ6 265 (1431655765)) (List.mem_of_getElem? (i := 1) rfl)
  have k_cst266 := hts (.constant RJ6 266 (858993459)) (List.mem_of_getElem? (i := 2) rfl)
  have k_cst267 := hts (.constant RJ6 267 (252645135)) (List.mem_of_getElem? (i := 3) rfl)
  obtain ⟨Q, hQ⟩ : ∃ Q, Q = MQ below (QI D [] rr A) args s 0 0 A := ⟨_, rfl⟩
  rw [← hQ]
  unfold f_J6_bitCount_0f7a4 at hF
  refine lv_iload_n hx hb dJ6_bitCount_0f7a4_0 rfl (lv_at hl 0 rfl) ?_
  refine lv_iload_n hx hb dJ6_bitCount_0f7a4_1 rfl (lv_at hl 0 rfl) ?_
  refine lv_iconst (v := (1 : Int32)) hx hb dJ6_bitCount_0f7a4_2 (by decide) ?_
  refine lv_iushr (v := (jushr i (1 : Int32))) hx hb dJ6_bitCount_0f7a4_3 rfl ?_
  refine lv_ldcw (v := (1431655765 : Int32)) hx hb hown k_cst265 dJ6_bitCount_0f7a4_4 ?_
  refine lv_iand hx hb dJ6_bitCount_0f7a4_7 ?_
  refine lv_isub hx hb dJ6_bitCount_0f7a4_8 ?_
  refine lv_istore_n (lv' := [(0, .int (i - ((jushr i (1 : Int32)) &&& (1431655765 : Int32))))]) hx hb dJ6_bitCount_0f7a4_9 rfl hl (by decide) rfl (fun ls hl => ?_)
  refine lv_iload_n hx hb dJ6_bitCount_0f7a4_10 rfl (lv_at hl 0 rfl) ?_
  refine lv_ldcw (v := (858993459 : Int32)) hx hb hown k_cst266 dJ6_bitCount_0f7a4_11 ?_
  refine lv_iand hx hb dJ6_bitCount_0f7a4_14 ?_
  refine lv_iload_n hx hb dJ6_bitCount_0f7a4_15 rfl (lv_at hl 0 rfl) ?_
  refine lv_iconst (v := (2 : Int32)) hx hb dJ6_bitCount_0f7a4_16 (by decide) ?_
  refine lv_iushr (v := (jushr (i - ((jushr i (1 : Int32)) &&& (1431655765 : Int32))) (2 : Int32))) hx hb dJ6_bitCount_0f7a4_17 rfl ?_
  refine lv_ldcw (v := (858993459 : Int32)) hx hb hown k_cst266 dJ6_bitCount_0f7a4_18 ?_
  refine lv_iand hx hb dJ6_bitCount_0f7a4_21 ?_
  refine lv_iadd hx hb dJ6_bitCount_0f7a4_22 ?_
  refine lv_istore_n (lv' := [(0, .int (((i - ((jushr i (1 : Int32)) &&& (1431655765 : Int32))) &&& (858993459 : Int32)) + ((jushr (i - ((jushr i (1 : Int32)) &&& (1431655765 : Int32))) (2 : Int32)) &&& (858993459 : Int32))))]) hx hb dJ6_bitCount_0f7a4_23 rfl hl (by decide) rfl (fun ls hl => ?_)
  refine lv_iload_n hx hb dJ6_bitCount_0f7a4_24 rfl (lv_at hl 0 rfl) ?_
  refine lv_iload_n hx hb dJ6_bitCount_0f7a4_25 rfl (lv_at hl 0 rfl) ?_
  refine lv_iconst (v := (4 : Int32)) hx hb dJ6_bitCount_0f7a4_26 (by decide) ?_
  refine lv_iushr (v := (jushr (((i - ((jushr i (1 : Int32)) &&& (1431655765 : Int32))) &&& (858993459 : Int32)) + ((jushr (i - ((jushr i (1 : Int32)) &&& (1431655765 : Int32))) (2 : Int32)) &&& (858993459 : Int32))) (4 : Int32))) hx hb dJ6_bitCount_0f7a4_27 rfl ?_
  refine lv_iadd hx hb dJ6_bitCount_0f7a4_28 ?_
  refine lv_ldcw (v := (252645135 : Int32)) hx hb hown k_cst267 dJ6_bitCount_0f7a4_29 ?_
  refine lv_iand hx hb dJ6_bitCount_0f7a4_32 ?_
  refine lv_istore_n (lv' := [(0, .int (((((i - ((jushr i (1 : Int32)) &&& (1431655765 : Int32))) &&& (858993459 : Int32)) + ((jushr (i - ((jushr i (1 : Int32)) &&& (1431655765 : Int32))) (2 : Int32)) &&& (858993459 : Int32))) + (jushr (((i - ((jushr i (1 : Int32)) &&& (1431655765 : Int32))) &&& (858993459 : Int32)) + ((jushr (i - ((jushr i (1 : Int32)) &&& (1431655765 : Int32))) (2 : Int32)) &&& (858993459 : Int32))) (4 : Int32))) &&& (252645135 : Int32)))]) hx hb dJ6_bitCount_0f7a4_33 rfl hl (by decide) rfl (fun ls hl => ?_)
  refine lv_iload_n hx hb dJ6_bitCount_0f7a4_34 rfl (lv_at hl 0 rfl) ?_
  refine lv_iload_n hx hb dJ6_bitCount_0f7a4_35 rfl (lv_at hl 0 rfl) ?_
  refine lv_bipush (v := (8 : Int32)) hx hb dJ6_bitCount_0f7a4_36 (by decide) ?_
  refine lv_iushr (v := (jushr (((((i - ((jushr i (1 : Int32)) &&& (1431655765 : Int32))) &&& (858993459 : Int32)) + ((jushr (i - ((jushr i (1 : Int32)) &&& (1431655765 : Int32))) (2 : Int32)) &&& (858993459 : Int32))) + (jushr (((i - ((jushr i (1 : Int32)) &&& (1431655765 : Int32))) &&& (858993459 : Int32)) + ((jushr (i - ((jushr i (1 : Int32)) &&& (1431655765 : Int32))) (2 : Int32)) &&& (858993459 : Int32))) (4 : Int32))) &&& (252645135 : Int32)) (8 : Int32))) hx hb dJ6_bitCount_0f7a4_38 rfl ?_
  refine lv_iadd hx hb dJ6_bitCount_0f7a4_39 ?_
  refine lv_istore_n (lv' := [(0, .int ((((((i - ((jushr i (1 : Int32)) &&& (1431655765 : Int32))) &&& (858993459 : Int32)) + ((jushr (i - ((jushr i (1 : Int32)) &&& (1431655765 : Int32))) (2 : Int32)) &&& (858993459 : Int32))) + (jushr (((i - ((jushr i (1 : Int32)) &&& (1431655765 : Int32))) &&& (858993459 : Int32)) + ((jushr (i - ((jushr i (1 : Int32)) &&& (1431655765 : Int32))) (2 : Int32)) &&& (858993459 : Int32))) (4 : Int32))) &&& (252645135 : Int32)) + (jushr (((((i - ((jushr i (1 : Int32)) &&& (1431655765 : Int32))) &&& (858993459 : Int32)) + ((jushr (i - ((jushr i (1 : Int32)) &&& (1431655765 : Int32))) (2 : Int32)) &&& (858993459 : Int32))) + (jushr (((i - ((jushr i (1 : Int32)) &&& (1431655765 : Int32))) &&& (858993459 : Int32)) + ((jushr (i - ((jushr i (1 : Int32)) &&& (1431655765 : Int32))) (2 : Int32)) &&& (858993459 : Int32))) (4 : Int32))) &&& (252645135 : Int32)) (8 : Int32))))]) hx hb dJ6_bitCount_0f7a4_40 rfl hl (by decide) rfl (fun ls hl => ?_)
  refine lv_iload_n hx hb dJ6_bitCount_0f7a4_41 rfl (lv_at hl 0 rfl) ?_
  refine lv_iload_n hx hb dJ6_bitCount_0f7a4_42 rfl (lv_at hl 0 rfl) ?_
  refine lv_bipush (v := (16 : Int32)) hx hb dJ6_bitCount_0f7a4_43 (by decide) ?_
  refine lv_iushr (v := (jushr ((((((i - ((jushr i (1 : Int32)) &&& (1431655765 : Int32))) &&& (858993459 : Int32)) + ((jushr (i - ((jushr i (1 : Int32)) &&& (1431655765 : Int32))) (2 : Int32)) &&& (858993459 : Int32))) + (jushr (((i - ((jushr i (1 : Int32)) &&& (1431655765 : Int32))) &&& (858993459 : Int32)) + ((jushr (i - ((jushr i (1 : Int32)) &&& (1431655765 : Int32))) (2 : Int32)) &&& (858993459 : Int32))) (4 : Int32))) &&& (252645135 : Int32)) + (jushr (((((i - ((jushr i (1 : Int32)) &&& (1431655765 : Int32))) &&& (858993459 : Int32)) + ((jushr (i - ((jushr i (1 : Int32)) &&& (1431655765 : Int32))) (2 : Int32)) &&& (858993459 : Int32))) + (jushr (((i - ((jushr i (1 : Int32)) &&& (1431655765 : Int32))) &&& (858993459 : Int32)) + ((jushr (i - ((jushr i (1 : Int32)) &&& (1431655765 : Int32))) (2 : Int32)) &&& (858993459 : Int32))) (4 : Int32))) &&& (252645135 : Int32)) (8 : Int32))) (16 : Int32))) hx hb dJ6_bitCount_0f7a4_45 rfl ?_
  refine lv_iadd hx hb dJ6_bitCount_0f7a4_46 ?_
  refine lv_istore_n (lv' := [(0, .int (((((((i - ((jushr i (1 : Int32)) &&& (1431655765 : Int32))) &&& (858993459 : Int32)) + ((jushr (i - ((jushr i (1 : Int32)) &&& (1431655765 : Int32))) (2 : Int32)) &&& (858993459 : Int32))) + (jushr (((i - ((jushr i (1 : Int32)) &&& (1431655765 : Int32))) &&& (858993459 : Int32)) + ((jushr (i - ((jushr i (1 : Int32)) &&& (1431655765 : Int32))) (2 : Int32)) &&& (858993459 : Int32))) (4 : Int32))) &&& (252645135 : Int32)) + (jushr (((((i - ((jushr i (1 : Int32)) &&& (1431655765 : Int32))) &&& (858993459 : Int32)) + ((jushr (i - ((jushr i (1 : Int32)) &&& (1431655765 : Int32))) (2 : Int32)) &&& (858993459 : Int32))) + (jushr (((i - ((jushr i (1 : Int32)) &&& (1431655765 : Int32))) &&& (858993459 : Int32)) + ((jushr (i - ((jushr i (1 : Int32)) &&& (1431655765 : Int32))) (2 : Int32)) &&& (858993459 : Int32))) (4 : Int32))) &&& (252645135 : Int32)) (8 : Int32))) + (jushr ((((((i - ((jushr i (1 : Int32)) &&& (1431655765 : Int32))) &&& (858993459 : Int32)) + ((jushr (i - ((jushr i (1 : Int32)) &&& (1431655765 : Int32))) (2 : Int32)) &&& (858993459 : Int32))) + (jushr (((i - ((jushr i (1 : Int32)) &&& (1431655765 : Int32))) &&& (858993459 : Int32)) + ((jushr (i - ((jushr i (1 : Int32)) &&& (1431655765 : Int32))) (2 : Int32)) &&& (858993459 : Int32))) (4 : Int32))) &&& (252645135 : Int32)) + (jushr (((((i - ((jushr i (1 : Int32)) &&& (1431655765 : Int32))) &&& (858993459 : Int32)) + ((jushr (i - ((jushr i (1 : Int32)) &&& (1431655765 : Int32))) (2 : Int32)) &&& (858993459 : Int32))) + (jushr (((i - ((jushr i (1 : Int32)) &&& (1431655765 : Int32))) &&& (858993459 : Int32)) + ((jushr (i - ((jushr i (1 : Int32)) &&& (1431655765 : Int32))) (2 : Int32)) &&& (858993459 : Int32))) (4 : Int32))) &&& (252645135 : Int32)) (8 : Int32))) (16 : Int32))))]) hx hb dJ6_bitCount_0f7a4_47 rfl hl (by decide) rfl (fun ls hl => ?_)
  refine lv_iload_n hx hb dJ6_bitCount_0f7a4_48 rfl (lv_at hl 0 rfl) ?_
  refine lv_bipush (v := (63 : Int32)) hx hb dJ6_bitCount_0f7a4_49 (by decide) ?_
  refine lv_iand hx hb dJ6_bitCount_0f7a4_51 ?_
  cases hF
  rw [hQ]
  exact xri hC hP hS dJ6_bitCount_0f7a4_52

def f_X6_isFull (ylen : Int32) : Option Int32 := (if ylen < (200 : Int32) then (some (0 : Int32)) else (some (1 : Int32)))

def rm_X6_isFull : Room := { frames := 0, cells := 0, slots := 0, locals := 0 }

theorem pd_X6_isFull : yX6_isFull.cls ≠ "java/lang/invoke/MethodHandle" ∧ yX6_isFull.cls ≠ "java/lang/invoke/VarHandle" ∧ (parseMethodDescriptor yX6_isFull.desc).map (fun d => d.parameters.length) = some 0 := by decide +kernel

set_option maxHeartbeats 4000000 in
set_option maxRecDepth 100000 in
theorem c_X6_isFull (l : Launch) (D : va_G) (cI cC cM : ClassId) (ay ayl : Nat) (ylen : Int32) (ylet : (Nat → Int32)) (rr : Int32) (hF : f_X6_isFull ylen = some rr) : CI l D cI cC cM yX6_isFull wsX6_isFull rm_X6_isFull [.ref ay] [(ay, .inr (6, [.ref ayl, .int ylen])), (ayl, .inl (cC, 200, .inl ylet))] [(ay, .inr (6, [.ref ayl, .int ylen])), (ayl, .inl (cC, 200, .inl ylet))] rr := by
  refine CI.of (cc := cX6_isFull) (nL := 1) (ret := (some .boolean)) (by decide) rfl (Nat.le_of_ble_eq_true rfl) ?_
  intro p e s m args below meth c A hC hP hD hS ls hl
  obtain ⟨hx, hb, hml, hown, hts, hr, hlk, hG, hA⟩ := id hC
  have hown : s.vm.findClass RX6 = some m.cls := hown
  have hK := hG.1
  have hl : lv_has ls 1 [(0, .ref ay)] := hl
  have k_f15 := hts (.fieldLink RX6 15 "ParasolHours$Text" "length" "I") (List.mem_of_getElem? (i := 1) rfl)
  have iX6 : ∀ w ∈ wsX60, w ∈ wsX6_isFull := by decide +kernel
  obtain ⟨Q, hQ⟩ : ∃ Q, Q = MQ below (QI D [(ay, .inr (6, [.ref ayl, .int ylen])), (ayl, .inl (cC, 200, .inl ylet))] rr A) args s 0 0 A := ⟨_, rfl⟩
  rw [← hQ]
  unfold f_X6_isFull at hF
  refine lv_aload_n hx hb dX6_isFull_0 rfl (lv_at hl 0 rfl) ?_
  refine va_get (D := D) (ci := 6) (v := .int ylen) (C := RX6) (T := TX6) (N := 2) hx hb hts iX6 hown hK hP 0 rfl rfl 1 (by decide) k_f15 (fun _ h9 => h9) rfl dX6_isFull_1 ?_
  refine lv_sipush (v := (200 : Int32)) hx hb dX6_isFull_4 (by decide) ?_
  refine lv_icmp_lt (tgt := 14) hx hb dX6_isFull_7 (by decide) (fun c1 => ?_) (fun c1 => ?_)
  · have hF := op_pos c1 hF
    refine lv_iconst (v := (0 : Int32)) hx hb dX6_isFull_14 (by decide) ?_
    cases hF
    rw [hQ]
    exact xrz hC rfl hP hS dX6_isFull_15
  · have hF := op_neg c1 hF
    refine lv_iconst (v := (1 : Int32)) hx hb dX6_isFull_10 (by decide) ?_
    refine lv_goto (tgt := 15) hx hb dX6_isFull_11 (by decide) ?_
    cases hF
    rw [hQ]
    exact xrz hC rfl hP hS dX6_isFull_15

def f_X6_append (ylen : Int32) (ylet : (Nat → Int32)) (c0 : Int32) : Option (Int32 × (Nat → Int32)) := (if ylen < 0 then (some (ylen, ylet)) else (if (200 : Int32) ≤ ylen then (some (ylen, ylet)) else (if okb ylen 200 = true then (some ((ylen + (1 : Int32)), (upd ylet ylen.toNatClampNeg (vp_nar .char c0)))) else none)))

def rm_X6_append : Room := { frames := 0, cells := 0, slots := 0, locals := 0 }

theorem pd_X6_append : yX6_append.cls ≠ "java/lang/invoke/MethodHandle" ∧ yX6_append.cls ≠ "java/lang/invoke/VarHandle" ∧ (parseMethodDescriptor yX6_append.desc).map (fun d => d.parameters.length) = some 1 := by decide +kernel

set_option maxHeartbeats 4000000 in
set_option maxRecDepth 100000 in
theorem c_X6_append (l : Launch) (D : va_G) (cI cC cM : ClassId) (ay ayl : Nat) (ylen : Int32) (ylet : (Nat → Int32)) (c0 : Int32) (ylen' : Int32) (ylet' : (Nat → Int32)) (hF : f_X6_append ylen ylet c0 = some (ylen', ylet')) : CV l D cI cC cM yX6_append wsX6_append rm_X6_append [.ref ay, .int c0] [(ay, .inr (6, [.ref ayl, .int ylen])), (ayl, .inl (cC, 200, .inl ylet))] [(ay, .inr (6, [.ref ayl, .int ylen'])), (ayl, .inl (cC, 200, .inl ylet'))] := by
  refine CV.of (cc := cX6_append) (nL := 2) (ret := none) (by decide) rfl (Nat.le_of_ble_eq_true rfl) ?_
  intro p e s m args below meth c A hC hP hD hS ls hl
  obtain ⟨hx, hb, hml, hown, hts, hr, hlk, hG, hA⟩ := id hC
  have hown : s.vm.findClass RX6 = some m.cls := hown
  have hK := hG.1
  have hl : lv_has ls 2 [(0, .ref ay), (1, .int c0)] := hl
  have k_f15 := hts (.fieldLink RX6 15 "ParasolHours$Text" "length" "I") (List.mem_of_getElem? (i := 1) rfl)
  have k_f9 := hts (.fieldLink RX6 9 "ParasolHours$Text" "letters" "[C") (List.mem_of_getElem? (i := 2) rfl)
  have iX6 : ∀ w ∈ wsX60, w ∈ wsX6_append := by decide +kernel
  obtain ⟨Q, hQ⟩ : ∃ Q, Q = MQ below (QV D [(ay, .inr (6, [.ref ayl, .int ylen'])), (ayl, .inl (cC, 200, .inl ylet'))] A) args s 0 0 A := ⟨_, rfl⟩
  rw [← hQ]
  unfold f_X6_append at hF
  refine lv_aload_n hx hb dX6_append_0 rfl (lv_at hl 0 rfl) ?_
  refine va_get (D := D) (ci := 6) (v := .int ylen) (C := RX6) (T := TX6) (N := 2) hx hb hts iX6 hown hK hP 0 rfl rfl 1 (by decide) k_f15 (fun _ h9 => h9) rfl dX6_append_1 ?_
  refine lv_if_lt (tgt := 39) hx hb dX6_append_4 (by decide) (fun c1 => ?_) (fun c1 => ?_)
  · have hF := op_pos c1 hF
    cases hF
    rw [hQ]
    exact xrv hC hP hS dX6_append_39
  · have hF := op_neg c1 hF
    refine lv_aload_n hx hb dX6_append_7 rfl (lv_at hl 0 rfl) ?_
    refine va_get (D := D) (ci := 6) (v := .int ylen) (C := RX6) (T := TX6) (N := 2) hx hb hts iX6 hown hK hP 0 rfl rfl 1 (by decide) k_f15 (fun _ h9 => h9) rfl dX6_append_8 ?_
    refine lv_aload_n hx hb dX6_append_11 rfl (lv_at hl 0 rfl) ?_
    refine va_get (D := D) (ci := 6) (v := .ref ayl) (C := RX6) (T := TX6) (N := 2) hx hb hts iX6 hown hK hP 0 rfl rfl 0 (by decide) k_f9 (fun _ h9 => h9) rfl dX6_append_12 ?_
    refine va_alen hx hb hK hP 1 1 rfl rfl (v := (200 : Int32)) rfl dX6_append_15 ?_
    refine lv_icmp_ge (tgt := 39) hx hb dX6_append_16 (by decide) (fun c2 => ?_) (fun c2 => ?_)
    · have hF := op_pos c2 hF
      cases hF
      rw [hQ]
      exact xrv hC hP hS dX6_append_39
    · have hF := op_neg c2 hF
      refine lv_aload_n hx hb dX6_append_19 rfl (lv_at hl 0 rfl) ?_
      refine va_get (D := D) (ci := 6) (v := .ref ayl) (C := RX6) (T := TX6) (N := 2) hx hb hts iX6 hown hK hP 0 rfl rfl 0 (by decide) k_f9 (fun _ h9 => h9) rfl dX6_append_20 ?_
      refine lv_aload_n hx hb dX6_append_23 rfl (lv_at hl 0 rfl) ?_
      refine va_get (D := D) (ci := 6) (v := .int ylen) (C := RX6) (T := TX6) (N := 2) hx hb hts iX6 hown hK hP 0 rfl rfl 1 (by decide) k_f15 (fun _ h9 => h9) rfl dX6_append_24 ?_
      refine lv_iload_n hx hb dX6_append_27 rfl (lv_at hl 1 rfl) ?_
      obtain ⟨o3, hF⟩ := op_ob hF
      refine va_cast hx hb hK hP hD hS 1 1 rfl rfl (okb_in o3) dX6_append_28 (fun H locs hP hD hS => ?_)
      have hP : va_P D vwCl [(ay, .inr (6, [.ref ayl, .int ylen])), (ayl, .inl (cC, 200, .inl (upd ylet ylen.toNatClampNeg (vp_nar .char c0))))] H := hP
      have hD : va_D A [(ay, .inr (6, [.ref ayl, .int ylen])), (ayl, .inl (cC, 200, .inl (upd ylet ylen.toNatClampNeg (vp_nar .char c0))))] := hD
      refine lv_aload_n hx hb dX6_append_29 rfl (lv_at hl 0 rfl) ?_
      refine lv_dup hx hb dX6_append_30 rfl ?_
      refine va_get (D := D) (ci := 6) (v := .int ylen) (C := RX6) (T := TX6) (N := 2) hx hb hts iX6 hown hK hP 0 rfl rfl 1 (by decide) k_f15 (fun _ h9 => h9) rfl dX6_append_31 ?_
      refine lv_iconst (v := (1 : Int32)) hx hb dX6_append_34 (by decide) ?_
      refine lv_iadd hx hb dX6_append_35 ?_
      refine va_put (D := D) (ci := 6) (v := .int (ylen + (1 : Int32))) (ty := .int) (C := RX6) (T := TX6) (N := 2) hx hb hts iX6 tyX6 tyX6_ok nmX6 hown hK hP hD hS 0 rfl rfl 1 (by decide) k_f15 (fun _ h9 => h9) rfl (by decide +kernel) rfl rfl (Nat.le_of_ble_eq_true rfl) dX6_append_36 (fun H locs hP hD hS => ?_)
      have hP : va_P D vwCl [(ay, .inr (6, [.ref ayl, .int (ylen + (1 : Int32))])), (ayl, .inl (cC, 200, .inl (upd ylet ylen.toNatClampNeg (vp_nar .char c0))))] H := hP
      have hD : va_D A [(ay, .inr (6, [.ref ayl, .int (ylen + (1 : Int32))])), (ayl, .inl (cC, 200, .inl (upd ylet ylen.toNatClampNeg (vp_nar .char c0))))] := hD
      cases hF
      rw [hQ]
      exact xrv hC hP hS dX6_append_39

def f_X6_clear  : Option Int32 := (some (0 : Int32))

def rm_X6_clear : Room := { frames := 0, cells := 0, slots := 0, locals := 0 }

theorem pd_X6_clear : yX6_clear.cls ≠ "java/lang/invoke/MethodHandle" ∧ yX6_clear.cls ≠ "java/lang/invoke/VarHandle" ∧ (parseMethodDescriptor yX6_clear.desc).map (fun d => d.parameters.length) = some 0 := by decide +kernel

set_option maxHeartbeats 4000000 in
set_option maxRecDepth 100000 in
theorem c_X6_clear (l : Launch) (D : va_G) (cI cC cM : ClassId) (ay ayl : Nat) (ylen : Int32) (ylet : (Nat → Int32)) (ylen' : Int32) (hF : f_X6_clear  = some ylen') : CV l D cI cC cM yX6_clear wsX6_clear rm_X6_clear [.ref ay] [(ay, .inr (6, [.ref ayl, .int ylen])), (ayl, .inl (cC, 200, .inl ylet))] [(ay, .inr (6, [.ref ayl, .int ylen'])), (ayl, .inl (cC, 200, .inl ylet))] := by
  refine CV.of (cc := cX6_clear) (nL := 1) (ret := none) (by decide) rfl (Nat.le_of_ble_eq_true rfl) ?_
  intro p e s m args below meth c A hC hP hD hS ls hl
  obtain ⟨hx, hb, hml, hown, hts, hr, hlk, hG, hA⟩ := id hC
  have hown : s.vm.findClass RX6 = some m.cls := hown
  have hK := hG.1
  have hl : lv_has ls 1 [(0, .ref ay)] := hl
  have k_f15 := hts (.fieldLink RX6 15 "ParasolHours$Text" "length" "I") (List.mem_of_getElem? (i := 1) rfl)
  have iX6 : ∀ w ∈ wsX60, w ∈ wsX6_clear := by decide +kernel
  obtain ⟨Q, hQ⟩ : ∃ Q, Q = MQ below (QV D [(ay, .inr (6, [.ref ayl, .int ylen'])), (ayl, .inl (cC, 200, .inl ylet))] A) args s 0 0 A := ⟨_, rfl⟩
  rw [← hQ]
  unfold f_X6_clear at hF
  refine lv_aload_n hx hb dX6_clear_0 rfl (lv_at hl 0 rfl) ?_
  refine lv_iconst (v := (0 : Int32)) hx hb dX6_clear_1 (by decide) ?_
  refine va_put (D := D) (ci := 6) (v := .int (0 : Int32)) (ty := .int) (C := RX6) (T := TX6) (N := 2) hx hb hts iX6 tyX6 tyX6_ok nmX6 hown hK hP hD hS 0 rfl rfl 1 (by decide) k_f15 (fun _ h9 => h9) rfl (by decide +kernel) rfl rfl (Nat.le_of_ble_eq_true rfl) dX6_clear_2 (fun H locs hP hD hS => ?_)
  have hP : va_P D vwCl [(ay, .inr (6, [.ref ayl, .int (0 : Int32)])), (ayl, .inl (cC, 200, .inl ylet))] H := hP
  have hD : va_D A [(ay, .inr (6, [.ref ayl, .int (0 : Int32)])), (ayl, .inl (cC, 200, .inl ylet))] := hD
  cases hF
  rw [hQ]
  exact xrv hC hP hS dX6_clear_5

def f_X6_letterAt (ylen : Int32) (ylet : (Nat → Int32)) (i : Int32) : Option Int32 := (if i < 0 then (some (32 : Int32)) else (if ylen ≤ i then (some (32 : Int32)) else (if (200 : Int32) ≤ i then (some (32 : Int32)) else (if okb i 200 = true then (if okc (ylet i.toNatClampNeg) = true then (some (ylet i.toNatClampNeg)) else none) else none))))

def rm_X6_letterAt : Room := { frames := 0, cells := 0, slots := 0, locals := 0 }

theorem pd_X6_letterAt : yX6_letterAt.cls ≠ "java/lang/invoke/MethodHandle" ∧ yX6_letterAt.cls ≠ "java/lang/invoke/VarHandle" ∧ (parseMethodDescriptor yX6_letterAt.desc).map (fun d => d.parameters.length) = some 1 := by decide +kernel

set_option maxHeartbeats 4000000 in
set_option maxRecDepth 100000 in
theorem c_X6_letterAt (l : Launch) (D : va_G) (cI cC cM : ClassId) (ay ayl : Nat) (ylen : Int32) (ylet : (Nat → Int32)) (i : Int32) (rr : Int32) (hF : f_X6_letterAt ylen ylet i = some rr) : CI l D cI cC cM yX6_letterAt wsX6_letterAt rm_X6_letterAt [.ref ay, .int i] [(ay, .inr (6, [.ref ayl, .int ylen])), (ayl, .inl (cC, 200, .inl ylet))] [(ay, .inr (6, [.ref ayl, .int ylen])), (ayl, .inl (cC, 200, .inl ylet))] rr := by
  refine CI.of (cc := cX6_letterAt) (nL := 2) (ret := (some .char)) (by decide) rfl (Nat.le_of_ble_eq_true rfl) ?_
  intro p e s m args below meth c A hC hP hD hS ls hl
  obtain ⟨hx, hb, hml, hown, hts, hr, hlk, hG, hA⟩ := id hC
  have hown : s.vm.findClass RX6 = some m.cls := hown
  have hK := hG.1
  have hl : lv_has ls 2 [(0, .ref ay), (1, .int i)] := hl
  have k_f15 := hts (.fieldLink RX6 15 "ParasolHours$Text" "length" "I") (List.mem_of_getElem? (i := 1) rfl)
  have k_f9 := hts (.fieldLink RX6 9 "ParasolHours$Text" "letters" "[C") (List.mem_of_getElem? (i := 2) rfl)
  have iX6 : ∀ w ∈ wsX60, w ∈ wsX6_letterAt := by decide +kernel
  obtain ⟨Q, hQ⟩ : ∃ Q, Q = MQ below (QI D [(ay, .inr (6, [.ref ayl, .int ylen])), (ayl, .inl (cC, 200, .inl ylet))] rr A) args s 0 0 A := ⟨_, rfl⟩
  rw [← hQ]
  unfold f_X6_letterAt at hF
  refine lv_iload_n hx hb dX6_letterAt_0 rfl (lv_at hl 1 rfl) ?_
  refine lv_if_lt (tgt := 30) hx hb dX6_letterAt_1 (by decide) (fun c1 => ?_) (fun c1 => ?_)
  · have hF := op_pos c1 hF
    refine lv_bipush (v := (32 : Int32)) hx hb dX6_letterAt_30 (by decide) ?_
    cases hF
    rw [hQ]
    exact xrz hC (by decide) hP hS dX6_letterAt_32
  · have hF := op_neg c1 hF
    refine lv_iload_n hx hb dX6_letterAt_4 rfl (lv_at hl 1 rfl) ?_
    refine lv_aload_n hx hb dX6_letterAt_5 rfl (lv_at hl 0 rfl) ?_
    refine va_get (D := D) (ci := 6) (v := .int ylen) (C := RX6) (T := TX6) (N := 2) hx hb hts iX6 hown hK hP 0 rfl rfl 1 (by decide) k_f15 (fun _ h9 => h9) rfl dX6_letterAt_6 ?_
    refine lv_icmp_ge (tgt := 30) hx hb dX6_letterAt_9 (by decide) (fun c2 => ?_) (fun c2 => ?_)
    · have hF := op_pos c2 hF
      refine lv_bipush (v := (32 : Int32)) hx hb dX6_letterAt_30 (by decide) ?_
      cases hF
      rw [hQ]
      exact xrz hC (by decide) hP hS dX6_letterAt_32
    · have hF := op_neg c2 hF
      refine lv_iload_n hx hb dX6_letterAt_12 rfl (lv_at hl 1 rfl) ?_
      refine lv_aload_n hx hb dX6_letterAt_13 rfl (lv_at hl 0 rfl) ?_
      refine va_get (D := D) (ci := 6) (v := .ref ayl) (C := RX6) (T := TX6) (N := 2) hx hb hts iX6 hown hK hP 0 rfl rfl 0 (by decide) k_f9 (fun _ h9 => h9) rfl dX6_letterAt_14 ?_
      refine va_alen hx hb hK hP 1 1 rfl rfl (v := (200 : Int32)) rfl dX6_letterAt_17 ?_
      refine lv_icmp_ge (tgt := 30) hx hb dX6_letterAt_18 (by decide) (fun c3 => ?_) (fun c3 => ?_)
      · have hF := op_pos c3 hF
        refine lv_bipush (v := (32 : Int32)) hx hb dX6_letterAt_30 (by decide) ?_
        cases hF
        rw [hQ]
        exact xrz hC (by decide) hP hS dX6_letterAt_32
      · have hF := op_neg c3 hF
        refine lv_aload_n hx hb dX6_letterAt_21 rfl (lv_at hl 0 rfl) ?_
        refine va_get (D := D) (ci := 6) (v := .ref ayl) (C := RX6) (T := TX6) (N := 2) hx hb hts iX6 hown hK hP 0 rfl rfl 0 (by decide) k_f9 (fun _ h9 => h9) rfl dX6_letterAt_22 ?_
        refine lv_iload_n hx hb dX6_letterAt_25 rfl (lv_at hl 1 rfl) ?_
        obtain ⟨o4, hF⟩ := op_ob hF
        refine va_cald hx hb hK hP 1 1 rfl rfl (okb_in o4) dX6_letterAt_26 ?_
        refine lv_goto (tgt := 32) hx hb dX6_letterAt_27 (by decide) ?_
        obtain ⟨z5, hF⟩ := op_ob hF
        cases hF
        rw [hQ]
        exact xrz hC (okc_n z5) hP hS dX6_letterAt_32

def f_X2_copyFrom (pkind : (Nat → Int32)) (pwsq : (Nat → Int32)) (pwhr : (Nat → Int32)) (osq : Int32) (opa : Int32) (ope : Int32) (owo : Int32) (okind : (Nat → Int32)) (owsq : (Nat → Int32)) (owhr : (Nat → Int32)) : Option (Int32 × Int32 × Int32 × Int32 × (Nat → Int32) × (Nat → Int32) × (Nat → Int32)) := (Option.bind (f_X7_copyRow 6 6 okind pkind) fun g_1 => (Option.bind (f_X7_copyRow 6 6 owsq pwsq) fun g_3 => (Option.bind (f_X7_copyRow 6 6 owhr pwhr) fun g_5 => (some (osq, opa, ope, owo, g_1, g_3, g_5)))))

def rm_X2_copyFrom : Room := { frames := 1, cells := 0, slots := 0, locals := 22 }

theorem pd_X2_copyFrom : yX2_copyFrom.cls ≠ "java/lang/invoke/MethodHandle" ∧ yX2_copyFrom.cls ≠ "java/lang/invoke/VarHandle" ∧ (parseMethodDescriptor yX2_copyFrom.desc).map (fun d => d.parameters.length) = some 1 := by decide +kernel

set_option maxHeartbeats 4000000 in
set_option maxRecDepth 100000 in
theorem c_X2_copyFrom (l : Launch) (D : va_G) (cI cC cM : ClassId) (ap apk apq apr ao aok aoq aor : Nat) (psq : Int32) (ppa : Int32) (ppe : Int32) (pwo : Int32) (pkind : (Nat → Int32)) (pwsq : (Nat → Int32)) (pwhr : (Nat → Int32)) (osq : Int32) (opa : Int32) (ope : Int32) (owo : Int32) (okind : (Nat → Int32)) (owsq : (Nat → Int32)) (owhr : (Nat → Int32)) (psq' : Int32) (ppa' : Int32) (ppe' : Int32) (pwo' : Int32) (pkind' : (Nat → Int32)) (pwsq' : (Nat → Int32)) (pwhr' : (Nat → Int32)) (hF : f_X2_copyFrom pkind pwsq pwhr osq opa ope owo okind owsq owhr = some (psq', ppa', ppe', pwo', pkind', pwsq', pwhr')) : CV l D cI cC cM yX2_copyFrom wsX2_copyFrom rm_X2_copyFrom [.ref ap, .ref ao] [(ap, .inr (2, [.int psq, .int ppa, .int ppe, .int pwo, .ref apk, .ref apq, .ref apr])), (apk, .inl (cI, 6, .inl pkind)), (apq, .inl (cI, 6, .inl pwsq)), (apr, .inl (cI, 6, .inl pwhr)), (ao, .inr (2, [.int osq, .int opa, .int ope, .int owo, .ref aok, .ref aoq, .ref aor])), (aok, .inl (cI, 6, .inl okind)), (aoq, .inl (cI, 6, .inl owsq)), (aor, .inl (cI, 6, .inl owhr))] [(ap, .inr (2, [.int psq', .int ppa', .int ppe', .int pwo', .ref apk, .ref apq, .ref apr])), (apk, .inl (cI, 6, .inl pkind')), (apq, .inl (cI, 6, .inl pwsq')), (apr, .inl (cI, 6, .inl pwhr')), (ao, .inr (2, [.int osq, .int opa, .int ope, .int owo, .ref aok, .ref aoq, .ref aor])), (aok, .inl (cI, 6, .inl okind)), (aoq, .inl (cI, 6, .inl owsq)), (aor, .inl (cI, 6, .inl owhr))] := by
  refine CV.of (cc := cX2_copyFrom) (nL := 2) (ret := none) (by decide) rfl (Nat.le_of_ble_eq_true rfl) ?_
  intro p e s m args below meth c A hC hP hD hS ls hl
  obtain ⟨hx, hb, hml, hown, hts, hr, hlk, hG, hA⟩ := id hC
  have hown : s.vm.findClass RX2 = some m.cls := hown
  have hK := hG.1
  have hl : lv_has ls 2 [(0, .ref ap), (1, .ref ao)] := hl
  have k_f21 := hts (.fieldLink RX2 21 "ParasolHours$Plan" "squares" "I") (List.mem_of_getElem? (i := 1) rfl)
  have k_f25 := hts (.fieldLink RX2 25 "ParasolHours$Plan" "parasols" "I") (List.mem_of_getElem? (i := 2) rfl)
  have k_f28 := hts (.fieldLink RX2 28 "ParasolHours$Plan" "persons" "I") (List.mem_of_getElem? (i := 3) rfl)
  have k_f31 := hts (.fieldLink RX2 31 "ParasolHours$Plan" "works" "I") (List.mem_of_getElem? (i := 4) rfl)
  have k_f9 := hts (.fieldLink RX2 9 "ParasolHours$Plan" "kind" "[I") (List.mem_of_getElem? (i := 5) rfl)
  have k_st_copyRow := hts (.static yX7_copyRow) (List.mem_of_getElem? (i := 8) rfl)
  have k_in_X7 := hts (.initialized RX7) (List.mem_of_getElem? (i := 9) rfl)
  have k_f15 := hts (.fieldLink RX2 15 "ParasolHours$Plan" "workSquare" "[I") (List.mem_of_getElem? (i := 6) rfl)
  have k_f18 := hts (.fieldLink RX2 18 "ParasolHours$Plan" "workHour" "[I") (List.mem_of_getElem? (i := 7) rfl)
  have iX2 : ∀ w ∈ wsX20, w ∈ wsX2_copyFrom := by decide +kernel
  obtain ⟨Q, hQ⟩ : ∃ Q, Q = MQ below (QV D [(ap, .inr (2, [.int psq', .int ppa', .int ppe', .int pwo', .ref apk, .ref apq, .ref apr])), (apk, .inl (cI, 6, .inl pkind')), (apq, .inl (cI, 6, .inl pwsq')), (apr, .inl (cI, 6, .inl pwhr')), (ao, .inr (2, [.int osq, .int opa, .int ope, .int owo, .ref aok, .ref aoq, .ref aor])), (aok, .inl (cI, 6, .inl okind)), (aoq, .inl (cI, 6, .inl owsq)), (aor, .inl (cI, 6, .inl owhr))] A) args s 0 0 A := ⟨_, rfl⟩
  rw [← hQ]
  unfold f_X2_copyFrom at hF
  refine lv_aload_n hx hb dX2_copyFrom_0 rfl (lv_at hl 0 rfl) ?_
  refine lv_aload_n hx hb dX2_copyFrom_1 rfl (lv_at hl 1 rfl) ?_
  refine va_get (D := D) (ci := 2) (v := .int osq) (C := RX2) (T := TX2) (N := 7) hx hb hts iX2 hown hK hP 4 rfl rfl 0 (by decide) k_f21 (fun _ h9 => h9) rfl dX2_copyFrom_2 ?_
  refine va_put (D := D) (ci := 2) (v := .int osq) (ty := .int) (C := RX2) (T := TX2) (N := 7) hx hb hts iX2 tyX2 tyX2_ok nmX2 hown hK hP hD hS 0 rfl rfl 0 (by decide) k_f21 (fun _ h9 => h9) rfl (by decide +kernel) rfl rfl (Nat.le_of_ble_eq_true rfl) dX2_copyFrom_5 (fun H locs hP hD hS => ?_)
  have hP : va_P D vwCl [(ap, .inr (2, [.int osq, .int ppa, .int ppe, .int pwo, .ref apk, .ref apq, .ref apr])), (apk, .inl (cI, 6, .inl pkind)), (apq, .inl (cI, 6, .inl pwsq)), (apr, .inl (cI, 6, .inl pwhr)), (ao, .inr (2, [.int osq, .int opa, .int ope, .int owo, .ref aok, .ref aoq, .ref aor])), (aok, .inl (cI, 6, .inl okind)), (aoq, .inl (cI, 6, .inl owsq)), (aor, .inl (cI, 6, .inl owhr))] H := hP
  have hD : va_D A [(ap, .inr (2, [.int osq, .int ppa, .int ppe, .int pwo, .ref apk, .ref apq, .ref apr])), (apk, .inl (cI, 6, .inl pkind)), (apq, .inl (cI, 6, .inl pwsq)), (apr, .inl (cI, 6, .inl pwhr)), (ao, .inr (2, [.int osq, .int opa, .int ope, .int owo, .ref aok, .ref aoq, .ref aor])), (aok, .inl (cI, 6, .inl okind)), (aoq, .inl (cI, 6, .inl owsq)), (aor, .inl (cI, 6, .inl owhr))] := hD
  refine lv_aload_n hx hb dX2_copyFrom_8 rfl (lv_at hl 0 rfl) ?_
  refine lv_aload_n hx hb dX2_copyFrom_9 rfl (lv_at hl 1 rfl) ?_
  refine va_get (D := D) (ci := 2) (v := .int opa) (C := RX2) (T := TX2) (N := 7) hx hb hts iX2 hown hK hP 4 rfl rfl 1 (by decide) k_f25 (fun _ h9 => h9) rfl dX2_copyFrom_10 ?_
  refine va_put (D := D) (ci := 2) (v := .int opa) (ty := .int) (C := RX2) (T := TX2) (N := 7) hx hb hts iX2 tyX2 tyX2_ok nmX2 hown hK hP hD hS 0 rfl rfl 1 (by decide) k_f25 (fun _ h9 => h9) rfl (by decide +kernel) rfl rfl (Nat.le_of_ble_eq_true rfl) dX2_copyFrom_13 (fun H locs hP hD hS => ?_)
  have hP : va_P D vwCl [(ap, .inr (2, [.int osq, .int opa, .int ppe, .int pwo, .ref apk, .ref apq, .ref apr])), (apk, .inl (cI, 6, .inl pkind)), (apq, .inl (cI, 6, .inl pwsq)), (apr, .inl (cI, 6, .inl pwhr)), (ao, .inr (2, [.int osq, .int opa, .int ope, .int owo, .ref aok, .ref aoq, .ref aor])), (aok, .inl (cI, 6, .inl okind)), (aoq, .inl (cI, 6, .inl owsq)), (aor, .inl (cI, 6, .inl owhr))] H := hP
  have hD : va_D A [(ap, .inr (2, [.int osq, .int opa, .int ppe, .int pwo, .ref apk, .ref apq, .ref apr])), (apk, .inl (cI, 6, .inl pkind)), (apq, .inl (cI, 6, .inl pwsq)), (apr, .inl (cI, 6, .inl pwhr)), (ao, .inr (2, [.int osq, .int opa, .int ope, .int owo, .ref aok, .ref aoq, .ref aor])), (aok, .inl (cI, 6, .inl okind)), (aoq, .inl (cI, 6, .inl owsq)), (aor, .inl (cI, 6, .inl owhr))] := hD
  refine lv_aload_n hx hb dX2_copyFrom_16 rfl (lv_at hl 0 rfl) ?_
  refine lv_aload_n hx hb dX2_copyFrom_17 rfl (lv_at hl 1 rfl) ?_
  refine va_get (D := D) (ci := 2) (v := .int ope) (C := RX2) (T := TX2) (N := 7) hx hb hts iX2 hown hK hP 4 rfl rfl 2 (by decide) k_f28 (fun _ h9 => h9) rfl dX2_copyFrom_18 ?_
  refine va_put (D := D) (ci := 2) (v := .int ope) (ty := .int) (C := RX2) (T := TX2) (N := 7) hx hb hts iX2 tyX2 tyX2_ok nmX2 hown hK hP hD hS 0 rfl rfl 2 (by decide) k_f28 (fun _ h9 => h9) rfl (by decide +kernel) rfl rfl (Nat.le_of_ble_eq_true rfl) dX2_copyFrom_21 (fun H locs hP hD hS => ?_)
  have hP : va_P D vwCl [(ap, .inr (2, [.int osq, .int opa, .int ope, .int pwo, .ref apk, .ref apq, .ref apr])), (apk, .inl (cI, 6, .inl pkind)), (apq, .inl (cI, 6, .inl pwsq)), (apr, .inl (cI, 6, .inl pwhr)), (ao, .inr (2, [.int osq, .int opa, .int ope, .int owo, .ref aok, .ref aoq, .ref aor])), (aok, .inl (cI, 6, .inl okind)), (aoq, .inl (cI, 6, .inl owsq)), (aor, .inl (cI, 6, .inl owhr))] H := hP
  have hD : va_D A [(ap, .inr (2, [.int osq, .int opa, .int ope, .int pwo, .ref apk, .ref apq, .ref apr])), (apk, .inl (cI, 6, .inl pkind)), (apq, .inl (cI, 6, .inl pwsq)), (apr, .inl (cI, 6, .inl pwhr)), (ao, .inr (2, [.int osq, .int opa, .int ope, .int owo, .ref aok, .ref aoq, .ref aor])), (aok, .inl (cI, 6, .inl okind)), (aoq, .inl (cI, 6, .inl owsq)), (aor, .inl (cI, 6, .inl owhr))] := hD
  refine lv_aload_n hx hb dX2_copyFrom_24 rfl (lv_at hl 0 rfl) ?_
  refine lv_aload_n hx hb dX2_copyFrom_25 rfl (lv_at hl 1 rfl) ?_
  refine va_get (D := D) (ci := 2) (v := .int owo) (C := RX2) (T := TX2) (N := 7) hx hb hts iX2 hown hK hP 4 rfl rfl 3 (by decide) k_f31 (fun _ h9 => h9) rfl dX2_copyFrom_26 ?_
  refine va_put (D := D) (ci := 2) (v := .int owo) (ty := .int) (C := RX2) (T := TX2) (N := 7) hx hb hts iX2 tyX2 tyX2_ok nmX2 hown hK hP hD hS 0 rfl rfl 3 (by decide) k_f31 (fun _ h9 => h9) rfl (by decide +kernel) rfl rfl (Nat.le_of_ble_eq_true rfl) dX2_copyFrom_29 (fun H locs hP hD hS => ?_)
  have hP : va_P D vwCl [(ap, .inr (2, [.int osq, .int opa, .int ope, .int owo, .ref apk, .ref apq, .ref apr])), (apk, .inl (cI, 6, .inl pkind)), (apq, .inl (cI, 6, .inl pwsq)), (apr, .inl (cI, 6, .inl pwhr)), (ao, .inr (2, [.int osq, .int opa, .int ope, .int owo, .ref aok, .ref aoq, .ref aor])), (aok, .inl (cI, 6, .inl okind)), (aoq, .inl (cI, 6, .inl owsq)), (aor, .inl (cI, 6, .inl owhr))] H := hP
  have hD : va_D A [(ap, .inr (2, [.int osq, .int opa, .int ope, .int owo, .ref apk, .ref apq, .ref apr])), (apk, .inl (cI, 6, .inl pkind)), (apq, .inl (cI, 6, .inl pwsq)), (apr, .inl (cI, 6, .inl pwhr)), (ao, .inr (2, [.int osq, .int opa, .int ope, .int owo, .ref aok, .ref aoq, .ref aor])), (aok, .inl (cI, 6, .inl okind)), (aoq, .inl (cI, 6, .inl owsq)), (aor, .inl (cI, 6, .inl owhr))] := hD
  refine lv_aload_n hx hb dX2_copyFrom_32 rfl (lv_at hl 1 rfl) ?_
  refine va_get (D := D) (ci := 2) (v := .ref aok) (C := RX2) (T := TX2) (N := 7) hx hb hts iX2 hown hK hP 4 rfl rfl 4 (by decide) k_f9 (fun _ h9 => h9) rfl dX2_copyFrom_33 ?_
  refine lv_aload_n hx hb dX2_copyFrom_36 rfl (lv_at hl 0 rfl) ?_
  refine va_get (D := D) (ci := 2) (v := .ref apk) (C := RX2) (T := TX2) (N := 7) hx hb hts iX2 hown hK hP 0 rfl rfl 4 (by decide) k_f9 (fun _ h9 => h9) rfl dX2_copyFrom_37 ?_
  obtain ⟨g_1, hb2, hF⟩ := op_bind hF
  refine xNv (As := [.ref aok, .ref apk]) (rest := []) hC hP hD hS [5, 1] (c_X7_copyRow l D cI cC cM aok apk 6 6 okind pkind g_1 hb2) ⟨va_cnB 2 hts gX2_copyFrom_X7_copyRow_n34 rfl rfl rfl (hG.nw 9 rfl) k_in_X7 pd_X7_copyRow ⟨Nat.le_of_ble_eq_true rfl, Nat.le_of_ble_eq_true rfl⟩, k_st_copyRow, trivial⟩ rfl rfl rfl rfl hl.1 rfl (Nat.le_of_ble_eq_true rfl) dX2_copyFrom_40 ⟨Nat.zero_le _, Nat.zero_le _⟩ (fun H locs hP hD hS => ?_)
  have hP : va_P D vwCl [(ap, .inr (2, [.int osq, .int opa, .int ope, .int owo, .ref apk, .ref apq, .ref apr])), (apk, .inl (cI, 6, .inl g_1)), (apq, .inl (cI, 6, .inl pwsq)), (apr, .inl (cI, 6, .inl pwhr)), (ao, .inr (2, [.int osq, .int opa, .int ope, .int owo, .ref aok, .ref aoq, .ref aor])), (aok, .inl (cI, 6, .inl okind)), (aoq, .inl (cI, 6, .inl owsq)), (aor, .inl (cI, 6, .inl owhr))] H := hP
  have hD : va_D A [(ap, .inr (2, [.int osq, .int opa, .int ope, .int owo, .ref apk, .ref apq, .ref apr])), (apk, .inl (cI, 6, .inl g_1)), (apq, .inl (cI, 6, .inl pwsq)), (apr, .inl (cI, 6, .inl pwhr)), (ao, .inr (2, [.int osq, .int opa, .int ope, .int owo, .ref aok, .ref aoq, .ref aor])), (aok, .inl (cI, 6, .inl okind)), (aoq, .inl (cI, 6, .inl owsq)), (aor, .inl (cI, 6, .inl owhr))] := hD
  refine lv_aload_n hx hb dX2_copyFrom_43 rfl (lv_at hl 1 rfl) ?_
  refine va_get (D := D) (ci := 2) (v := .ref aoq) (C := RX2) (T := TX2) (N := 7) hx hb hts iX2 hown hK hP 4 rfl rfl 5 (by decide) k_f15 (fun _ h9 => h9) rfl dX2_copyFrom_44 ?_
  refine lv_aload_n hx hb dX2_copyFrom_47 rfl (lv_at hl 0 rfl) ?_
  refine va_get (D := D) (ci := 2) (v := .ref apq) (C := RX2) (T := TX2) (N := 7) hx hb hts iX2 hown hK hP 0 rfl rfl 5 (by decide) k_f15 (fun _ h9 => h9) rfl dX2_copyFrom_48 ?_
  obtain ⟨g_3, hb4, hF⟩ := op_bind hF
  refine xNv (As := [.ref aoq, .ref apq]) (rest := []) hC hP hD hS [6, 2] (c_X7_copyRow l D cI cC cM aoq apq 6 6 owsq pwsq g_3 hb4) ⟨va_cnB 2 hts gX2_copyFrom_X7_copyRow_n34 rfl rfl rfl (hG.nw 9 rfl) k_in_X7 pd_X7_copyRow ⟨Nat.le_of_ble_eq_true rfl, Nat.le_of_ble_eq_true rfl⟩, k_st_copyRow, trivial⟩ rfl rfl rfl rfl hl.1 rfl (Nat.le_of_ble_eq_true rfl) dX2_copyFrom_51 ⟨Nat.zero_le _, Nat.zero_le _⟩ (fun H locs hP hD hS => ?_)
  have hP : va_P D vwCl [(ap, .inr (2, [.int osq, .int opa, .int ope, .int owo, .ref apk, .ref apq, .ref apr])), (apk, .inl (cI, 6, .inl g_1)), (apq, .inl (cI, 6, .inl g_3)), (apr, .inl (cI, 6, .inl pwhr)), (ao, .inr (2, [.int osq, .int opa, .int ope, .int owo, .ref aok, .ref aoq, .ref aor])), (aok, .inl (cI, 6, .inl okind)), (aoq, .inl (cI, 6, .inl owsq)), (aor, .inl (cI, 6, .inl owhr))] H := hP
  have hD : va_D A [(ap, .inr (2, [.int osq, .int opa, .int ope, .int owo, .ref apk, .ref apq, .ref apr])), (apk, .inl (cI, 6, .inl g_1)), (apq, .inl (cI, 6, .inl g_3)), (apr, .inl (cI, 6, .inl pwhr)), (ao, .inr (2, [.int osq, .int opa, .int ope, .int owo, .ref aok, .ref aoq, .ref aor])), (aok, .inl (cI, 6, .inl okind)), (aoq, .inl (cI, 6, .inl owsq)), (aor, .inl (cI, 6, .inl owhr))] := hD
  refine lv_aload_n hx hb dX2_copyFrom_54 rfl (lv_at hl 1 rfl) ?_
  refine va_get (D := D) (ci := 2) (v := .ref aor) (C := RX2) (T := TX2) (N := 7) hx hb hts iX2 hown hK hP 4 rfl rfl 6 (by decide) k_f18 (fun _ h9 => h9) rfl dX2_copyFrom_55 ?_
  refine lv_aload_n hx hb dX2_copyFrom_58 rfl (lv_at hl 0 rfl) ?_
  refine va_get (D := D) (ci := 2) (v := .ref apr) (C := RX2) (T := TX2) (N := 7) hx hb hts iX2 hown hK hP 0 rfl rfl 6 (by decide) k_f18 (fun _ h9 => h9) rfl dX2_copyFrom_59 ?_
  obtain ⟨g_5, hb6, hF⟩ := op_bind hF
  refine xNv (As := [.ref aor, .ref apr]) (rest := []) hC hP hD hS [7, 3] (c_X7_copyRow l D cI cC cM aor apr 6 6 owhr pwhr g_5 hb6) ⟨va_cnB 2 hts gX2_copyFrom_X7_copyRow_n34 rfl rfl rfl (hG.nw 9 rfl) k_in_X7 pd_X7_copyRow ⟨Nat.le_of_ble_eq_true rfl, Nat.le_of_ble_eq_true rfl⟩, k_st_copyRow, trivial⟩ rfl rfl rfl rfl hl.1 rfl (Nat.le_of_ble_eq_true rfl) dX2_copyFrom_62 ⟨Nat.zero_le _, Nat.zero_le _⟩ (fun H locs hP hD hS => ?_)
  have hP : va_P D vwCl [(ap, .inr (2, [.int osq, .int opa, .int ope, .int owo, .ref apk, .ref apq, .ref apr])), (apk, .inl (cI, 6, .inl g_1)), (apq, .inl (cI, 6, .inl g_3)), (apr, .inl (cI, 6, .inl g_5)), (ao, .inr (2, [.int osq, .int opa, .int ope, .int owo, .ref aok, .ref aoq, .ref aor])), (aok, .inl (cI, 6, .inl okind)), (aoq, .inl (cI, 6, .inl owsq)), (aor, .inl (cI, 6, .inl owhr))] H := hP
  have hD : va_D A [(ap, .inr (2, [.int osq, .int opa, .int ope, .int owo, .ref apk, .ref apq, .ref apr])), (apk, .inl (cI, 6, .inl g_1)), (apq, .inl (cI, 6, .inl g_3)), (apr, .inl (cI, 6, .inl g_5)), (ao, .inr (2, [.int osq, .int opa, .int ope, .int owo, .ref aok, .ref aoq, .ref aor])), (aok, .inl (cI, 6, .inl okind)), (aoq, .inl (cI, 6, .inl owsq)), (aor, .inl (cI, 6, .inl owhr))] := hD
  cases hF
  rw [hQ]
  exact xrv hC hP hS dX2_copyFrom_65

def f_X2_hasSquare (psq : Int32) (i : Int32) : Option Int32 := (if i < 0 then (some (0 : Int32)) else (if psq ≤ i then (some (0 : Int32)) else (some (1 : Int32))))

def rm_X2_hasSquare : Room := { frames := 0, cells := 0, slots := 0, locals := 0 }

theorem pd_X2_hasSquare : yX2_hasSquare.cls ≠ "java/lang/invoke/MethodHandle" ∧ yX2_hasSquare.cls ≠ "java/lang/invoke/VarHandle" ∧ (parseMethodDescriptor yX2_hasSquare.desc).map (fun d => d.parameters.length) = some 1 := by decide +kernel

set_option maxHeartbeats 4000000 in
set_option maxRecDepth 100000 in
theorem c_X2_hasSquare (l : Launch) (D : va_G) (cI cC cM : ClassId) (ap apk apq apr : Nat) (psq : Int32) (ppa : Int32) (ppe : Int32) (pwo : Int32) (pkind : (Nat → Int32)) (pwsq : (Nat → Int32)) (pwhr : (Nat → Int32)) (i : Int32) (rr : Int32) (hF : f_X2_hasSquare psq i = some rr) : CI l D cI cC cM yX2_hasSquare wsX2_hasSquare rm_X2_hasSquare [.ref ap, .int i] [(ap, .inr (2, [.int psq, .int ppa, .int ppe, .int pwo, .ref apk, .ref apq, .ref apr])), (apk, .inl (cI, 6, .inl pkind)), (apq, .inl (cI, 6, .inl pwsq)), (apr, .inl (cI, 6, .inl pwhr))] [(ap, .inr (2, [.int psq, .int ppa, .int ppe, .int pwo, .ref apk, .ref apq, .ref apr])), (apk, .inl (cI, 6, .inl pkind)), (apq, .inl (cI, 6, .inl pwsq)), (apr, .inl (cI, 6, .inl pwhr))] rr := by
  refine CI.of (cc := cX2_hasSquare) (nL := 2) (ret := (some .boolean)) (by decide) rfl (Nat.le_of_ble_eq_true rfl) ?_
  intro p e s m args below meth c A hC hP hD hS ls hl
  obtain ⟨hx, hb, hml, hown, hts, hr, hlk, hG, hA⟩ := id hC
  have hown : s.vm.findClass RX2 = some m.cls := hown
  have hK := hG.1
  have hl : lv_has ls 2 [(0, .ref ap), (1, .int i)] := hl
  have k_f21 := hts (.fieldLink RX2 21 "ParasolHours$Plan" "squares" "I") (List.mem_of_getElem? (i := 1) rfl)
  have iX2 : ∀ w ∈ wsX20, w ∈ wsX2_hasSquare := by decide +kernel
  obtain ⟨Q, hQ⟩ : ∃ Q, Q = MQ below (QI D [(ap, .inr (2, [.int psq, .int ppa, .int ppe, .int pwo, .ref apk, .ref apq, .ref apr])), (apk, .inl (cI, 6, .inl pkind)), (apq, .inl (cI, 6, .inl pwsq)), (apr, .inl (cI, 6, .inl pwhr))] rr A) args s 0 0 A := ⟨_, rfl⟩
  rw [← hQ]
  unfold f_X2_hasSquare at hF
  refine lv_iload_n hx hb dX2_hasSquare_0 rfl (lv_at hl 1 rfl) ?_
  refine lv_if_lt (tgt := 16) hx hb dX2_hasSquare_1 (by decide) (fun c1 => ?_) (fun c1 => ?_)
  · have hF := op_pos c1 hF
    refine lv_iconst (v := (0 : Int32)) hx hb dX2_hasSquare_16 (by decide) ?_
    cases hF
    rw [hQ]
    exact xrz hC rfl hP hS dX2_hasSquare_17
  · have hF := op_neg c1 hF
    refine lv_iload_n hx hb dX2_hasSquare_4 rfl (lv_at hl 1 rfl) ?_
    refine lv_aload_n hx hb dX2_hasSquare_5 rfl (lv_at hl 0 rfl) ?_
    refine va_get (D := D) (ci := 2) (v := .int psq) (C := RX2) (T := TX2) (N := 7) hx hb hts iX2 hown hK hP 0 rfl rfl 0 (by decide) k_f21 (fun _ h9 => h9) rfl dX2_hasSquare_6 ?_
    refine lv_icmp_ge (tgt := 16) hx hb dX2_hasSquare_9 (by decide) (fun c2 => ?_) (fun c2 => ?_)
    · have hF := op_pos c2 hF
      refine lv_iconst (v := (0 : Int32)) hx hb dX2_hasSquare_16 (by decide) ?_
      cases hF
      rw [hQ]
      exact xrz hC rfl hP hS dX2_hasSquare_17
    · have hF := op_neg c2 hF
      refine lv_iconst (v := (1 : Int32)) hx hb dX2_hasSquare_12 (by decide) ?_
      refine lv_goto (tgt := 17) hx hb dX2_hasSquare_13 (by decide) ?_
      cases hF
      rw [hQ]
      exact xrz hC rfl hP hS dX2_hasSquare_17

def f_X2_hasParasol (ppa : Int32) (i : Int32) : Option Int32 := (if i < 0 then (some (0 : Int32)) else (if ppa ≤ i then (some (0 : Int32)) else (some (1 : Int32))))

def rm_X2_hasParasol : Room := { frames := 0, cells := 0, slots := 0, locals := 0 }

theorem pd_X2_hasParasol : yX2_hasParasol.cls ≠ "java/lang/invoke/MethodHandle" ∧ yX2_hasParasol.cls ≠ "java/lang/invoke/VarHandle" ∧ (parseMethodDescriptor yX2_hasParasol.desc).map (fun d => d.parameters.length) = some 1 := by decide +kernel

set_option maxHeartbeats 4000000 in
set_option maxRecDepth 100000 in
theorem c_X2_hasParasol (l : Launch) (D : va_G) (cI cC cM : ClassId) (ap apk apq apr : Nat) (psq : Int32) (ppa : Int32) (ppe : Int32) (pwo : Int32) (pkind : (Nat → Int32)) (pwsq : (Nat → Int32)) (pwhr : (Nat → Int32)) (i : Int32) (rr : Int32) (hF : f_X2_hasParasol ppa i = some rr) : CI l D cI cC cM yX2_hasParasol wsX2_hasParasol rm_X2_hasParasol [.ref ap, .int i] [(ap, .inr (2, [.int psq, .int ppa, .int ppe, .int pwo, .ref apk, .ref apq, .ref apr])), (apk, .inl (cI, 6, .inl pkind)), (apq, .inl (cI, 6, .inl pwsq)), (apr, .inl (cI, 6, .inl pwhr))] [(ap, .inr (2, [.int psq, .int ppa, .int ppe, .int pwo, .ref apk, .ref apq, .ref apr])), (apk, .inl (cI, 6, .inl pkind)), (apq, .inl (cI, 6, .inl pwsq)), (apr, .inl (cI, 6, .inl pwhr))] rr := by
  refine CI.of (cc := cX2_hasParasol) (nL := 2) (ret := (some .boolean)) (by decide) rfl (Nat.le_of_ble_eq_true rfl) ?_
  intro p e s m args below meth c A hC hP hD hS ls hl
  obtain ⟨hx, hb, hml, hown, hts, hr, hlk, hG, hA⟩ := id hC
  have hown : s.vm.findClass RX2 = some m.cls := hown
  have hK := hG.1
  have hl : lv_has ls 2 [(0, .ref ap), (1, .int i)] := hl
  have k_f25 := hts (.fieldLink RX2 25 "ParasolHours$Plan" "parasols" "I") (List.mem_of_getElem? (i := 1) rfl)
  have iX2 : ∀ w ∈ wsX20, w ∈ wsX2_hasParasol := by decide +kernel
  obtain ⟨Q, hQ⟩ : ∃ Q, Q = MQ below (QI D [(ap, .inr (2, [.int psq, .int ppa, .int ppe, .int pwo, .ref apk, .ref apq, .ref apr])), (apk, .inl (cI, 6, .inl pkind)), (apq, .inl (cI, 6, .inl pwsq)), (apr, .inl (cI, 6, .inl pwhr))] rr A) args s 0 0 A := ⟨_, rfl⟩
  rw [← hQ]
  unfold f_X2_hasParasol at hF
  refine lv_iload_n hx hb dX2_hasParasol_0 rfl (lv_at hl 1 rfl) ?_
  refine lv_if_lt (tgt := 16) hx hb dX2_hasParasol_1 (by decide) (fun c1 => ?_) (fun c1 => ?_)
  · have hF := op_pos c1 hF
    refine lv_iconst (v := (0 : Int32)) hx hb dX2_hasParasol_16 (by decide) ?_
    cases hF
    rw [hQ]
    exact xrz hC rfl hP hS dX2_hasParasol_17
  · have hF := op_neg c1 hF
    refine lv_iload_n hx hb dX2_hasParasol_4 rfl (lv_at hl 1 rfl) ?_
    refine lv_aload_n hx hb dX2_hasParasol_5 rfl (lv_at hl 0 rfl) ?_
    refine va_get (D := D) (ci := 2) (v := .int ppa) (C := RX2) (T := TX2) (N := 7) hx hb hts iX2 hown hK hP 0 rfl rfl 1 (by decide) k_f25 (fun _ h9 => h9) rfl dX2_hasParasol_6 ?_
    refine lv_icmp_ge (tgt := 16) hx hb dX2_hasParasol_9 (by decide) (fun c2 => ?_) (fun c2 => ?_)
    · have hF := op_pos c2 hF
      refine lv_iconst (v := (0 : Int32)) hx hb dX2_hasParasol_16 (by decide) ?_
      cases hF
      rw [hQ]
      exact xrz hC rfl hP hS dX2_hasParasol_17
    · have hF := op_neg c2 hF
      refine lv_iconst (v := (1 : Int32)) hx hb dX2_hasParasol_12 (by decide) ?_
      refine lv_goto (tgt := 17) hx hb dX2_hasParasol_13 (by decide) ?_
      cases hF
      rw [hQ]
      exact xrz hC rfl hP hS dX2_hasParasol_17

def f_X2_hasPerson (ppe : Int32) (i : Int32) : Option Int32 := (if i < 0 then (some (0 : Int32)) else (if ppe ≤ i then (some (0 : Int32)) else (some (1 : Int32))))

def rm_X2_hasPerson : Room := { frames := 0, cells := 0, slots := 0, locals := 0 }

theorem pd_X2_hasPerson : yX2_hasPerson.cls ≠ "java/lang/invoke/MethodHandle" ∧ yX2_hasPerson.cls ≠ "java/lang/invoke/VarHandle" ∧ (parseMethodDescriptor yX2_hasPerson.desc).map (fun d => d.parameters.length) = some 1 := by decide +kernel

set_option maxHeartbeats 4000000 in
set_option maxRecDepth 100000 in
theorem c_X2_hasPerson (l : Launch) (D : va_G) (cI cC cM : ClassId) (ap apk apq apr : Nat) (psq : Int32) (ppa : Int32) (ppe : Int32) (pwo : Int32) (pkind : (Nat → Int32)) (pwsq : (Nat → Int32)) (pwhr : (Nat → Int32)) (i : Int32) (rr : Int32) (hF : f_X2_hasPerson ppe i = some rr) : CI l D cI cC cM yX2_hasPerson wsX2_hasPerson rm_X2_hasPerson [.ref ap, .int i] [(ap, .inr (2, [.int psq, .int ppa, .int ppe, .int pwo, .ref apk, .ref apq, .ref apr])), (apk, .inl (cI, 6, .inl pkind)), (apq, .inl (cI, 6, .inl pwsq)), (apr, .inl (cI, 6, .inl pwhr))] [(ap, .inr (2, [.int psq, .int ppa, .int ppe, .int pwo, .ref apk, .ref apq, .ref apr])), (apk, .inl (cI, 6, .inl pkind)), (apq, .inl (cI, 6, .inl pwsq)), (apr, .inl (cI, 6, .inl pwhr))] rr := by
  refine CI.of (cc := cX2_hasPerson) (nL := 2) (ret := (some .boolean)) (by decide) rfl (Nat.le_of_ble_eq_true rfl) ?_
  intro p e s m args below meth c A hC hP hD hS ls hl
  obtain ⟨hx, hb, hml, hown, hts, hr, hlk, hG, hA⟩ := id hC
  have hown : s.vm.findClass RX2 = some m.cls := hown
  have hK := hG.1
  have hl : lv_has ls 2 [(0, .ref ap), (1, .int i)] := hl
  have k_f28 := hts (.fieldLink RX2 28 "ParasolHours$Plan" "persons" "I") (List.mem_of_getElem? (i := 1) rfl)
  have iX2 : ∀ w ∈ wsX20, w ∈ wsX2_hasPerson := by decide +kernel
  obtain ⟨Q, hQ⟩ : ∃ Q, Q = MQ below (QI D [(ap, .inr (2, [.int psq, .int ppa, .int ppe, .int pwo, .ref apk, .ref apq, .ref apr])), (apk, .inl (cI, 6, .inl pkind)), (apq, .inl (cI, 6, .inl pwsq)), (apr, .inl (cI, 6, .inl pwhr))] rr A) args s 0 0 A := ⟨_, rfl⟩
  rw [← hQ]
  unfold f_X2_hasPerson at hF
  refine lv_iload_n hx hb dX2_hasPerson_0 rfl (lv_at hl 1 rfl) ?_
  refine lv_if_lt (tgt := 16) hx hb dX2_hasPerson_1 (by decide) (fun c1 => ?_) (fun c1 => ?_)
  · have hF := op_pos c1 hF
    refine lv_iconst (v := (0 : Int32)) hx hb dX2_hasPerson_16 (by decide) ?_
    cases hF
    rw [hQ]
    exact xrz hC rfl hP hS dX2_hasPerson_17
  · have hF := op_neg c1 hF
    refine lv_iload_n hx hb dX2_hasPerson_4 rfl (lv_at hl 1 rfl) ?_
    refine lv_aload_n hx hb dX2_hasPerson_5 rfl (lv_at hl 0 rfl) ?_
    refine va_get (D := D) (ci := 2) (v := .int ppe) (C := RX2) (T := TX2) (N := 7) hx hb hts iX2 hown hK hP 0 rfl rfl 2 (by decide) k_f28 (fun _ h9 => h9) rfl dX2_hasPerson_6 ?_
    refine lv_icmp_ge (tgt := 16) hx hb dX2_hasPerson_9 (by decide) (fun c2 => ?_) (fun c2 => ?_)
    · have hF := op_pos c2 hF
      refine lv_iconst (v := (0 : Int32)) hx hb dX2_hasPerson_16 (by decide) ?_
      cases hF
      rw [hQ]
      exact xrz hC rfl hP hS dX2_hasPerson_17
    · have hF := op_neg c2 hF
      refine lv_iconst (v := (1 : Int32)) hx hb dX2_hasPerson_12 (by decide) ?_
      refine lv_goto (tgt := 17) hx hb dX2_hasPerson_13 (by decide) ?_
      cases hF
      rw [hQ]
      exact xrz hC rfl hP hS dX2_hasPerson_17

def f_X2_hasWork (pwo : Int32) (i : Int32) : Option Int32 := (if i < 0 then (some (0 : Int32)) else (if pwo ≤ i then (some (0 : Int32)) else (some (1 : Int32))))

def rm_X2_hasWork : Room := { frames := 0, cells := 0, slots := 0, locals := 0 }

theorem pd_X2_hasWork : yX2_hasWork.cls ≠ "java/lang/invoke/MethodHandle" ∧ yX2_hasWork.cls ≠ "java/lang/invoke/VarHandle" ∧ (parseMethodDescriptor yX2_hasWork.desc).map (fun d => d.parameters.length) = some 1 := by decide +kernel

set_option maxHeartbeats 4000000 in
set_option maxRecDepth 100000 in
theorem c_X2_hasWork (l : Launch) (D : va_G) (cI cC cM : ClassId) (ap apk apq apr : Nat) (psq : Int32) (ppa : Int32) (ppe : Int32) (pwo : Int32) (pkind : (Nat → Int32)) (pwsq : (Nat → Int32)) (pwhr : (Nat → Int32)) (i : Int32) (rr : Int32) (hF : f_X2_hasWork pwo i = some rr) : CI l D cI cC cM yX2_hasWork wsX2_hasWork rm_X2_hasWork [.ref ap, .int i] [(ap, .inr (2, [.int psq, .int ppa, .int ppe, .int pwo, .ref apk, .ref apq, .ref apr])), (apk, .inl (cI, 6, .inl pkind)), (apq, .inl (cI, 6, .inl pwsq)), (apr, .inl (cI, 6, .inl pwhr))] [(ap, .inr (2, [.int psq, .int ppa, .int ppe, .int pwo, .ref apk, .ref apq, .ref apr])), (apk, .inl (cI, 6, .inl pkind)), (apq, .inl (cI, 6, .inl pwsq)), (apr, .inl (cI, 6, .inl pwhr))] rr := by
  refine CI.of (cc := cX2_hasWork) (nL := 2) (ret := (some .boolean)) (by decide) rfl (Nat.le_of_ble_eq_true rfl) ?_
  intro p e s m args below meth c A hC hP hD hS ls hl
  obtain ⟨hx, hb, hml, hown, hts, hr, hlk, hG, hA⟩ := id hC
  have hown : s.vm.findClass RX2 = some m.cls := hown
  have hK := hG.1
  have hl : lv_has ls 2 [(0, .ref ap), (1, .int i)] := hl
  have k_f31 := hts (.fieldLink RX2 31 "ParasolHours$Plan" "works" "I") (List.mem_of_getElem? (i := 1) rfl)
  have iX2 : ∀ w ∈ wsX20, w ∈ wsX2_hasWork := by decide +kernel
  obtain ⟨Q, hQ⟩ : ∃ Q, Q = MQ below (QI D [(ap, .inr (2, [.int psq, .int ppa, .int ppe, .int pwo, .ref apk, .ref apq, .ref apr])), (apk, .inl (cI, 6, .inl pkind)), (apq, .inl (cI, 6, .inl pwsq)), (apr, .inl (cI, 6, .inl pwhr))] rr A) args s 0 0 A := ⟨_, rfl⟩
  rw [← hQ]
  unfold f_X2_hasWork at hF
  refine lv_iload_n hx hb dX2_hasWork_0 rfl (lv_at hl 1 rfl) ?_
  refine lv_if_lt (tgt := 16) hx hb dX2_hasWork_1 (by decide) (fun c1 => ?_) (fun c1 => ?_)
  · have hF := op_pos c1 hF
    refine lv_iconst (v := (0 : Int32)) hx hb dX2_hasWork_16 (by decide) ?_
    cases hF
    rw [hQ]
    exact xrz hC rfl hP hS dX2_hasWork_17
  · have hF := op_neg c1 hF
    refine lv_iload_n hx hb dX2_hasWork_4 rfl (lv_at hl 1 rfl) ?_
    refine lv_aload_n hx hb dX2_hasWork_5 rfl (lv_at hl 0 rfl) ?_
    refine va_get (D := D) (ci := 2) (v := .int pwo) (C := RX2) (T := TX2) (N := 7) hx hb hts iX2 hown hK hP 0 rfl rfl 3 (by decide) k_f31 (fun _ h9 => h9) rfl dX2_hasWork_6 ?_
    refine lv_icmp_ge (tgt := 16) hx hb dX2_hasWork_9 (by decide) (fun c2 => ?_) (fun c2 => ?_)
    · have hF := op_pos c2 hF
      refine lv_iconst (v := (0 : Int32)) hx hb dX2_hasWork_16 (by decide) ?_
      cases hF
      rw [hQ]
      exact xrz hC rfl hP hS dX2_hasWork_17
    · have hF := op_neg c2 hF
      refine lv_iconst (v := (1 : Int32)) hx hb dX2_hasWork_12 (by decide) ?_
      refine lv_goto (tgt := 17) hx hb dX2_hasWork_13 (by decide) ?_
      cases hF
      rw [hQ]
      exact xrz hC rfl hP hS dX2_hasWork_17

def f_X2_kindOf (pkind : (Nat → Int32)) (i : Int32) : Option Int32 := (Option.bind (f_X7_at 6 pkind i) fun r1 => (some r1))

def rm_X2_kindOf : Room := { frames := 1, cells := 0, slots := 0, locals := 21 }

theorem pd_X2_kindOf : yX2_kindOf.cls ≠ "java/lang/invoke/MethodHandle" ∧ yX2_kindOf.cls ≠ "java/lang/invoke/VarHandle" ∧ (parseMethodDescriptor yX2_kindOf.desc).map (fun d => d.parameters.length) = some 1 := by decide +kernel

set_option maxHeartbeats 4000000 in
set_option maxRecDepth 100000 in
theorem c_X2_kindOf (l : Launch) (D : va_G) (cI cC cM : ClassId) (ap apk apq apr : Nat) (psq : Int32) (ppa : Int32) (ppe : Int32) (pwo : Int32) (pkind : (Nat → Int32)) (pwsq : (Nat → Int32)) (pwhr : (Nat → Int32)) (i : Int32) (rr : Int32) (hF : f_X2_kindOf pkind i = some rr) : CI l D cI cC cM yX2_kindOf wsX2_kindOf rm_X2_kindOf [.ref ap, .int i] [(ap, .inr (2, [.int psq, .int ppa, .int ppe, .int pwo, .ref apk, .ref apq, .ref apr])), (apk, .inl (cI, 6, .inl pkind)), (apq, .inl (cI, 6, .inl pwsq)), (apr, .inl (cI, 6, .inl pwhr))] [(ap, .inr (2, [.int psq, .int ppa, .int ppe, .int pwo, .ref apk, .ref apq, .ref apr])), (apk, .inl (cI, 6, .inl pkind)), (apq, .inl (cI, 6, .inl pwsq)), (apr, .inl (cI, 6, .inl pwhr))] rr := by
  refine CI.of (cc := cX2_kindOf) (nL := 2) (ret := (some .int)) (by decide) rfl (Nat.le_of_ble_eq_true rfl) ?_
  intro p e s m args below meth c A hC hP hD hS ls hl
  obtain ⟨hx, hb, hml, hown, hts, hr, hlk, hG, hA⟩ := id hC
  have hown : s.vm.findClass RX2 = some m.cls := hown
  have hK := hG.1
  have hl : lv_has ls 2 [(0, .ref ap), (1, .int i)] := hl
  have k_f9 := hts (.fieldLink RX2 9 "ParasolHours$Plan" "kind" "[I") (List.mem_of_getElem? (i := 1) rfl)
  have k_st_at := hts (.static yX7_at) (List.mem_of_getElem? (i := 2) rfl)
  have k_in_X7 := hts (.initialized RX7) (List.mem_of_getElem? (i := 3) rfl)
  have iX2 : ∀ w ∈ wsX20, w ∈ wsX2_kindOf := by decide +kernel
  obtain ⟨Q, hQ⟩ : ∃ Q, Q = MQ below (QI D [(ap, .inr (2, [.int psq, .int ppa, .int ppe, .int pwo, .ref apk, .ref apq, .ref apr])), (apk, .inl (cI, 6, .inl pkind)), (apq, .inl (cI, 6, .inl pwsq)), (apr, .inl (cI, 6, .inl pwhr))] rr A) args s 0 0 A := ⟨_, rfl⟩
  rw [← hQ]
  unfold f_X2_kindOf at hF
  refine lv_aload_n hx hb dX2_kindOf_0 rfl (lv_at hl 0 rfl) ?_
  refine va_get (D := D) (ci := 2) (v := .ref apk) (C := RX2) (T := TX2) (N := 7) hx hb hts iX2 hown hK hP 0 rfl rfl 4 (by decide) k_f9 (fun _ h9 => h9) rfl dX2_kindOf_1 ?_
  refine lv_iload_n hx hb dX2_kindOf_4 rfl (lv_at hl 1 rfl) ?_
  obtain ⟨r1, hb2, hF⟩ := op_bind hF
  refine xNr (As := [.ref apk, .int i]) (rest := []) hC hP hD hS [1] (c_X7_at l D cI cC cM apk 6 pkind i r1 hb2) ⟨va_cnB 2 hts gX2_kindOf_X7_at_n38 rfl rfl rfl (hG.nw 11 rfl) k_in_X7 pd_X7_at ⟨Nat.le_of_ble_eq_true rfl, Nat.le_of_ble_eq_true rfl⟩, k_st_at, trivial⟩ rfl rfl rfl hl.1 rfl (Nat.le_of_ble_eq_true rfl) dX2_kindOf_5 ⟨Nat.zero_le _, Nat.zero_le _⟩ (fun H locs hP hS => ?_)
  cases hF
  rw [hQ]
  exact xri hC hP hS dX2_kindOf_8

def f_X2_workSquareOf (pwsq : (Nat → Int32)) (i : Int32) : Option Int32 := (Option.bind (f_X7_at 6 pwsq i) fun r1 => (some r1))

def rm_X2_workSquareOf : Room := { frames := 1, cells := 0, slots := 0, locals := 21 }

theorem pd_X2_workSquareOf : yX2_workSquareOf.cls ≠ "java/lang/invoke/MethodHandle" ∧ yX2_workSquareOf.cls ≠ "java/lang/invoke/VarHandle" ∧ (parseMethodDescriptor yX2_workSquareOf.desc).map (fun d => d.parameters.length) = some 1 := by decide +kernel

set_option maxHeartbeats 4000000 in
set_option maxRecDepth 100000 in
theorem c_X2_workSquareOf (l : Launch) (D : va_G) (cI cC cM : ClassId) (ap apk apq apr : Nat) (psq : Int32) (ppa : Int32) (ppe : Int32) (pwo : Int32) (pkind : (Nat → Int32)) (pwsq : (Nat → Int32)) (pwhr : (Nat → Int32)) (i : Int32) (rr : Int32) (hF : f_X2_workSquareOf pwsq i = some rr) : CI l D cI cC cM yX2_workSquareOf wsX2_workSquareOf rm_X2_workSquareOf [.ref ap, .int i] [(ap, .inr (2, [.int psq, .int ppa, .int ppe, .int pwo, .ref apk, .ref apq, .ref apr])), (apk, .inl (cI, 6, .inl pkind)), (apq, .inl (cI, 6, .inl pwsq)), (apr, .inl (cI, 6, .inl pwhr))] [(ap, .inr (2, [.int psq, .int ppa, .int ppe, .int pwo, .ref apk, .ref apq, .ref apr])), (apk, .inl (cI, 6, .inl pkind)), (apq, .inl (cI, 6, .inl pwsq)), (apr, .inl (cI, 6, .inl pwhr))] rr := by
  refine CI.of (cc := cX2_workSquareOf) (nL := 2) (ret := (some .int)) (by decide) rfl (Nat.le_of_ble_eq_true rfl) ?_
  intro p e s m args below meth c A hC hP hD hS ls hl
  obtain ⟨hx, hb, hml, hown, hts, hr, hlk, hG, hA⟩ := id hC
  have hown : s.vm.findClass RX2 = some m.cls := hown
  have hK := hG.1
  have hl : lv_has ls 2 [(0, .ref ap), (1, .int i)] := hl
  have k_f15 := hts (.fieldLink RX2 15 "ParasolHours$Plan" "workSquare" "[I") (List.mem_of_getElem? (i := 1) rfl)
  have k_st_at := hts (.static yX7_at) (List.mem_of_getElem? (i := 2) rfl)
  have k_in_X7 := hts (.initialized RX7) (List.mem_of_getElem? (i := 3) rfl)
  have iX2 : ∀ w ∈ wsX20, w ∈ wsX2_workSquareOf := by decide +kernel
  obtain ⟨Q, hQ⟩ : ∃ Q, Q = MQ below (QI D [(ap, .inr (2, [.int psq, .int ppa, .int ppe, .int pwo, .ref apk, .ref apq, .ref apr])), (apk, .inl (cI, 6, .inl pkind)), (apq, .inl (cI, 6, .inl pwsq)), (apr, .inl (cI, 6, .inl pwhr))] rr A) args s 0 0 A := ⟨_, rfl⟩
  rw [← hQ]
  unfold f_X2_workSquareOf at hF
  refine lv_aload_n hx hb dX2_workSquareOf_0 rfl (lv_at hl 0 rfl) ?_
  refine va_get (D := D) (ci := 2) (v := .ref apq) (C := RX2) (T := TX2) (N := 7) hx hb hts iX2 hown hK hP 0 rfl rfl 5 (by decide) k_f15 (fun _ h9 => h9) rfl dX2_workSquareOf_1 ?_
  refine lv_iload_n hx hb dX2_workSquareOf_4 rfl (lv_at hl 1 rfl) ?_
  obtain ⟨r1, hb2, hF⟩ := op_bind hF
  refine xNr (As := [.ref apq, .int i]) (rest := []) hC hP hD hS [2] (c_X7_at l D cI cC cM apq 6 pwsq i r1 hb2) ⟨va_cnB 2 hts gX2_workSquareOf_X7_at_n38 rfl rfl rfl (hG.nw 11 rfl) k_in_X7 pd_X7_at ⟨Nat.le_of_ble_eq_true rfl, Nat.le_of_ble_eq_true rfl⟩, k_st_at, trivial⟩ rfl rfl rfl hl.1 rfl (Nat.le_of_ble_eq_true rfl) dX2_workSquareOf_5 ⟨Nat.zero_le _, Nat.zero_le _⟩ (fun H locs hP hS => ?_)
  cases hF
  rw [hQ]
  exact xri hC hP hS dX2_workSquareOf_8

def f_X2_workHourOf (pwhr : (Nat → Int32)) (i : Int32) : Option Int32 := (Option.bind (f_X7_at 6 pwhr i) fun r1 => (some r1))

def rm_X2_workHourOf : Room := { frames := 1, cells := 0, slots := 0, locals := 21 }

theorem pd_X2_workHourOf : yX2_workHourOf.cls ≠ "java/lang/invoke/MethodHandle" ∧ yX2_workHourOf.cls ≠ "java/lang/invoke/VarHandle" ∧ (parseMethodDescriptor yX2_workHourOf.desc).map (fun d => d.parameters.length) = some 1 := by decide +kernel

set_option maxHeartbeats 4000000 in
set_option maxRecDepth 100000 in
theorem c_X2_workHourOf (l : Launch) (D : va_G) (cI cC cM : ClassId) (ap apk apq apr : Nat) (psq : Int32) (ppa : Int32) (ppe : Int32) (pwo : Int32) (pkind : (Nat → Int32)) (pwsq : (Nat → Int32)) (pwhr : (Nat → Int32)) (i : Int32) (rr : Int32) (hF : f_X2_workHourOf pwhr i = some rr) : CI l D cI cC cM yX2_workHourOf wsX2_workHourOf rm_X2_workHourOf [.ref ap, .int i] [(ap, .inr (2, [.int psq, .int ppa, .int ppe, .int pwo, .ref apk, .ref apq, .ref apr])), (apk, .inl (cI, 6, .inl pkind)), (apq, .inl (cI, 6, .inl pwsq)), (apr, .inl (cI, 6, .inl pwhr))] [(ap, .inr (2, [.int psq, .int ppa, .int ppe, .int pwo, .ref apk, .ref apq, .ref apr])), (apk, .inl (cI, 6, .inl pkind)), (apq, .inl (cI, 6, .inl pwsq)), (apr, .inl (cI, 6, .inl pwhr))] rr := by
  refine CI.of (cc := cX2_workHourOf) (nL := 2) (ret := (some .int)) (by decide) rfl (Nat.le_of_ble_eq_true rfl) ?_
  intro p e s m args below meth c A hC hP hD hS ls hl
  obtain ⟨hx, hb, hml, hown, hts, hr, hlk, hG, hA⟩ := id hC
  have hown : s.vm.findClass RX2 = some m.cls := hown
  have hK := hG.1
  have hl : lv_has ls 2 [(0, .ref ap), (1, .int i)] := hl
  have k_f18 := hts (.fieldLink RX2 18 "ParasolHours$Plan" "workHour" "[I") (List.mem_of_getElem? (i := 1) rfl)
  have k_st_at := hts (.static yX7_at) (List.mem_of_getElem? (i := 2) rfl)
  have k_in_X7 := hts (.initialized RX7) (List.mem_of_getElem? (i := 3) rfl)
  have iX2 : ∀ w ∈ wsX20, w ∈ wsX2_workHourOf := by decide +kernel
  obtain ⟨Q, hQ⟩ : ∃ Q, Q = MQ below (QI D [(ap, .inr (2, [.int psq, .int ppa, .int ppe, .int pwo, .ref apk, .ref apq, .ref apr])), (apk, .inl (cI, 6, .inl pkind)), (apq, .inl (cI, 6, .inl pwsq)), (apr, .inl (cI, 6, .inl pwhr))] rr A) args s 0 0 A := ⟨_, rfl⟩
  rw [← hQ]
  unfold f_X2_workHourOf at hF
  refine lv_aload_n hx hb dX2_workHourOf_0 rfl (lv_at hl 0 rfl) ?_
  refine va_get (D := D) (ci := 2) (v := .ref apr) (C := RX2) (T := TX2) (N := 7) hx hb hts iX2 hown hK hP 0 rfl rfl 6 (by decide) k_f18 (fun _ h9 => h9) rfl dX2_workHourOf_1 ?_
  refine lv_iload_n hx hb dX2_workHourOf_4 rfl (lv_at hl 1 rfl) ?_
  obtain ⟨r1, hb2, hF⟩ := op_bind hF
  refine xNr (As := [.ref apr, .int i]) (rest := []) hC hP hD hS [3] (c_X7_at l D cI cC cM apr 6 pwhr i r1 hb2) ⟨va_cnB 2 hts gX2_workHourOf_X7_at_n38 rfl rfl rfl (hG.nw 11 rfl) k_in_X7 pd_X7_at ⟨Nat.le_of_ble_eq_true rfl, Nat.le_of_ble_eq_true rfl⟩, k_st_at, trivial⟩ rfl rfl rfl hl.1 rfl (Nat.le_of_ble_eq_true rfl) dX2_workHourOf_5 ⟨Nat.zero_le _, Nat.zero_le _⟩ (fun H locs hP hS => ?_)
  cases hF
  rw [hQ]
  exact xri hC hP hS dX2_workHourOf_8
