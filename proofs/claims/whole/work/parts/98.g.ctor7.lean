-- by ctor7.py
def txS : String := "q6;u0,10,2;u1,18,0;u2,7,4;u3,14,1;u0,11,8;p0;p0;p2;p0;w1,13;w2,19;w3,10;w5,15;w0,12;"
theorem char_d2 : ∀ c, c < 127 → vp_nar .char (nI c) = nI c := by decide +kernel
theorem append_ok {k : Nat} {y : Int32} {ylet : Nat → Int32} (hk : k < 84) (hy : y = nI k) (hl : ∀ j, j < k → ylet j = nI (txN j)) : ∃ y1 f1, f_X6_append y ylet (txB.getD k 0) = some (y1, f1) ∧ y1 = nI (k + 1) ∧ ∀ j, j < k + 1 → f1 j = nI (txN j) := by
  subst hy
  refine ⟨nI (k + 1), upd ylet k (nI (txN k)), ?_, rfl, fun j hj => ?_⟩
  rotate_left
  · by_cases q : j = k
    · subst q; rw [pk_us]
    · rw [pk_un q]; exact hl j (by omega)
  obtain ⟨-, -, t3, t4, t5⟩ := txB_ok k hk
  unfold f_X6_append
  rw [if_neg (nI_pos (by omega)), if_neg (show ¬ (200 : Int32) ≤ nI k from nle (b := 200) (by omega) (by omega)), if_pos (okb_nI (by omega) (by omega)), clN (by omega), t3, char_d2 _ (by omega), nI_n1]
def X7post (cI cC cM : ClassId) (ax : Nat) : va_W → Prop := fun w => ∃ (ay ar ap aq aj az ak ae ad ayl arp arm arn arpk arpq arpr armh armw arms armu apk apq apr aqh aqw aqs aqu ajh ajw ajs aju azr akr aeh aeb adc adb adr : Nat) (za zah zaw zaS zau ka kah kaw kaS kau : Nat → Nat) (rpsq' rppa' rppe' rpwo' : Int32) (ylet1 rnum' rpkind' rpwsq' rpwhr' rmhour' rmworn' rmsquare' rmunder' pkind pwsq pwhr qhour qworn qsquare qunder : Nat → Int32), w = wl [(bX ax ay ar ap aq aj az ak ae ad), (bT cC ay ayl 0 ylet1), (bRO ar arp arm arn), (bRN cI arn rnum'), (bRM cI arp rpsq' rppa' rppe' rpwo' arpk arpq arpr rpkind' rpwsq' rpwhr' arm 0 0 0 0 armh armw arms armu rmhour' rmworn' rmsquare' rmunder'), (bP cI ap rpsq' rppa' rppe' rpwo' apk apq apr pkind pwsq pwhr), (bQ cI aq ap 0 0 0 0 aqh aqw aqs aqu qhour qworn qsquare qunder), (bJ cI aj ap 0 0 0 0 ajh ajw ajs aju (fun _ => 0) (fun _ => 0) (fun _ => 0) (fun _ => 0)), (bZO az azr 0), (bZM cI cM azr za ap V00 zah zaw zaS zau), (bKO ak akr 0), (bKM cI cM akr ka ap V00 kah kaw kaS kau), (bE cI ae aeh aeb 0 (fun _ => 0) (fun _ => 0)), (bD cI ad adc adb adr 0 (fun _ => 0) (fun _ => 0) (fun _ => 0))] iA7 ∧ IP rT.sq rT.pa rT.pe rT.wo rT.K rT.WS rT.WH rpsq' rppa' rppe' rpwo' pkind pwsq pwhr lw8 ∧ IM 0 rT.sq rT.pa rT.pe rT.wo (0, 0, 0, 0, qhour, qworn, qsquare, qunder) nw8

def rm_X7_init : Room := { frames := 5, cells := 88, slots := 710, locals := 116 }
def PN7 (D : va_G) (cI cC cM : ClassId) (tx tv : Nat) (ws : va_W) (sz : Nat) : State → Prop := fun U => U.heap.size = sz ∧ va_P D vwCl ws U.heap ∧ (GK D cI cC cM U ∧ va_AO RX1 U ∧ vk_R RX7 68 txS tx U) ∧ va_D (fun _ => True) ws ∧ SX tx tv (va_A ws sz) U U.heap
theorem PN7.blind {D : va_G} {cI cC cM : ClassId} {tx tv : Nat} {ws : va_W} {sz : Nat} {av : List Value} : FrameBlind (va_Pc av (PN7 D cI cC cM tx tv ws sz)) := fun a U g mk q => by
  obtain ⟨q0, q1, qP, ⟨qK, qO, qV⟩, qD, qX⟩ := q
  exact ⟨q0, q1, qP, ⟨qK.calling g mk a, va_AO.moved (u := U) (U := U.calling g mk a) (Vm.Alike.refl U.vm) qO, vk_R.same (u := U) (U := U.calling g mk a) rfl qV⟩, qD, SX.moved (u := U) (U := U.calling g mk a) (Vm.Alike.refl U.vm) qX⟩
theorem hr7_3_4 {x0 x1 x2 x3 x4 x5 x6 x7 x8 x9 x10 x11 x12 x13 z3 z4 : va_W} : wl [x0, x1, x2, x3, x4, x5, x6, x7, x8, x9, x10, x11, x12, x13] [0, 5, 6, 7, 8, 9, 10, 11, 12, 13] = wl [x0, x1, x2, z3, z4, x5, x6, x7, x8, x9, x10, x11, x12, x13] [0, 5, 6, 7, 8, 9, 10, 11, 12, 13] := rfl
theorem hr7_5_6 {x0 x1 x2 x3 x4 x5 x6 x7 x8 x9 x10 x11 x12 x13 z5 z6 : va_W} : wl [x0, x1, x2, x3, x4, x5, x6, x7, x8, x9, x10, x11, x12, x13] [1, 7, 9, 11, 13] = wl [x0, x1, x2, x3, x4, z5, z6, x7, x8, x9, x10, x11, x12, x13] [1, 7, 9, 11, 13] := rfl
theorem hr7_1 {x0 x1 x2 x3 x4 x5 x6 x7 x8 x9 x10 x11 x12 x13 z1 : va_W} : wl [x0, x1, x2, x3, x4, x5, x6, x7, x8, x9, x10, x11, x12, x13] [0, 2, 3, 4, 5, 6, 7, 8, 9, 10, 11, 12, 13] = wl [x0, z1, x2, x3, x4, x5, x6, x7, x8, x9, x10, x11, x12, x13] [0, 2, 3, 4, 5, 6, 7, 8, 9, 10, 11, 12, 13] := rfl
section X7LOOP
variable {p : Program} {l : Launch} {e : Env} {s : State} {m : MethodId} {args : Array Value} {below : List Frame} {meth : Method} {c : Code} {Q : State → Prop} {D : va_G} {cI cC cM : ClassId} {A : Nat → Prop} {tx tv : Nat} {ax ay ar ap aq aj az ak ae ad ayl : Nat} {b2 b3 b4 b5 b6 b7 b8 b9 b10 b11 b12 b13 : va_W}
set_option maxHeartbeats 4000000 in
set_option maxRecDepth 100000 in
theorem X7_loop (hC : Ctx p s m args meth c D cI cC cM A RX7 cX7_init 2 none wsX7_init) (hX : SX tx tv A s s.heap) (hV : vk_R RX7 68 txS tx s) (k_f10 : (Cond.fieldLink RX7 10 "ParasolHours" "text" "LParasolHours$Text;").before args s = true)
    (kk : ∀ (y : Int32) (ylet : Nat → Int32) (H : Heap) (locs : List Loc) (ls : Array Slot), y = nI 84 → (∀ j, j < 84 → ylet j = nI (txN j)) → va_P D vwCl (wl [(bX ax ay ar ap aq aj az ak ae ad), (bT cC ay ayl y ylet), b2, b3, b4, b5, b6, b7, b8, b9, b10, b11, b12, b13] iA7) H → va_D A (wl [(bX ax ay ar ap aq aj az ak ae ad), (bT cC ay ayl y ylet), b2, b3, b4, b5, b6, b7, b8, b9, b10, b11, b12, b13] iA7) → va_S A s.heap H locs → lv_has ls 2 [(1, .int (nI 84)), (0, .ref ax)] → W p l e rm_X7_init s m args below meth c H locs 88 710 Q (F0 m 152 ls [])) :
    ∀ (n k : Nat), k + n = 84 → ∀ (y : Int32) (ylet : Nat → Int32), y = nI k → (∀ j, j < k → ylet j = nI (txN j)) → ∀ (H : Heap) (locs : List Loc) (ls : Array Slot), va_P D vwCl (wl [(bX ax ay ar ap aq aj az ak ae ad), (bT cC ay ayl y ylet), b2, b3, b4, b5, b6, b7, b8, b9, b10, b11, b12, b13] iA7) H → va_D A (wl [(bX ax ay ar ap aq aj az ak ae ad), (bT cC ay ayl y ylet), b2, b3, b4, b5, b6, b7, b8, b9, b10, b11, b12, b13] iA7) → va_S A s.heap H locs → lv_has ls 2 [(1, .int (nI k)), (0, .ref ax)] → W p l e rm_X7_init s m args below meth c H locs 88 710 Q (F0 m 124 ls []) := by
  obtain ⟨hx, hb, hml, hown, hts, hr, hlk, hG, hA⟩ := id hC
  have hown : s.vm.findClass RX7 = some m.cls := hown
  have hK := hG.1
  have iX7 : ∀ w ∈ wsX70, w ∈ wsX7_init := by decide +kernel
  intro n
  induction n with
  | zero =>
    intro k hk y ylet hyk hy H locs ls hP hD hS hl
    obtain rfl : k = 84 := by omega
    refine lv_iload_n hx hb dX7_init_124 rfl (lv_at hl 0 rfl) ?_
    refine va_ldcS hx hb hown hV dX7_init_125 ?_
    refine sVi (As := []) (rest := [.int (nI 84)]) hC hX hP hD hS (c_J0_length l D cI cC cM tx tv) (cwV 0 hts gX7_init_J0_length_8abf5 rfl rfl rfl (by decide +kernel) ⟨Nat.le_of_ble_eq_true rfl, Nat.le_of_ble_eq_true rfl⟩) rfl hl.1 rfl (Nat.le_of_ble_eq_true rfl) dX7_init_127 ⟨Nat.le_of_ble_eq_true rfl, Nat.le_of_ble_eq_true rfl⟩ (fun H locs hP hD hS => ?_)
    refine lv_icmp_ge (tgt := 152) hx hb dX7_init_130 (by decide) (fun _ => ?_) (fun c1 => absurd (by decide) c1)
    exact kk y ylet H locs ls hyk hy hP hD hS hl
  | succ n ih =>
    intro k hk y ylet hyk hy H locs ls hP hD hS hl
    have hk84 : k < 84 := by omega
    refine lv_iload_n hx hb dX7_init_124 rfl (lv_at hl 0 rfl) ?_
    refine va_ldcS hx hb hown hV dX7_init_125 ?_
    refine sVi (As := []) (rest := [.int (nI k)]) hC hX hP hD hS (c_J0_length l D cI cC cM tx tv) (cwV 0 hts gX7_init_J0_length_8abf5 rfl rfl rfl (by decide +kernel) ⟨Nat.le_of_ble_eq_true rfl, Nat.le_of_ble_eq_true rfl⟩) rfl hl.1 rfl (Nat.le_of_ble_eq_true rfl) dX7_init_127 ⟨Nat.le_of_ble_eq_true rfl, Nat.le_of_ble_eq_true rfl⟩ (fun H locs hP hD hS => ?_)
    refine lv_icmp_ge (tgt := 152) hx hb dX7_init_130 (by decide) (fun c1 => absurd c1 (nle (b := 84) (by omega) (by omega))) (fun _ => ?_)
    refine lv_aload_n hx hb dX7_init_133 rfl (lv_at hl 1 rfl) ?_
    refine va_get (D := D) (ci := 7) (v := .ref ay) (C := RX7) (T := TX7) (N := 9) hx hb hts iX7 hown hK hP 0 rfl rfl 0 (by decide) k_f10 (fun _ h9 => h9) rfl dX7_init_134 ?_
    refine va_ldcS hx hb hown hV dX7_init_137 ?_
    refine lv_iload_n hx hb dX7_init_139 rfl (lv_at hl 0 rfl) ?_
    refine sVi (As := [.int (nI k)]) (rest := [.ref ay]) hC hX hP hD hS (c_J0_charAt l D cI cC cM tx tv k hk84) (cwV 1 hts gX7_init_J0_charAt_5068e rfl rfl rfl (by decide +kernel) ⟨Nat.le_of_ble_eq_true rfl, Nat.le_of_ble_eq_true rfl⟩) rfl hl.1 rfl (Nat.le_of_ble_eq_true rfl) dX7_init_140 ⟨Nat.le_of_ble_eq_true rfl, Nat.le_of_ble_eq_true rfl⟩ (fun H locs hP hD hS => ?_)
    obtain ⟨y1, f1, hF1, hy1, hf1⟩ := append_ok hk84 hyk hy
    refine lVv (As := [.int (txB.getD k 0)]) (rest := []) hC hP hD hS [1] [0, 2, 3, 4, 5, 6, 7, 8, 9, 10, 11, 12, 13] (by decide +kernel) (c_X6_append l D cI cC cM ay ayl y ylet (txB.getD k 0) y1 f1 hF1) [(bX ax ay ar ap aq aj az ak ae ad), (bT cC ay ayl y1 f1), b2, b3, b4, b5, b6, b7, b8, b9, b10, b11, b12, b13] rfl rfl hr7_1 rfl (cwV 1 hts gX7_init_X6_append rfl rfl rfl (by decide +kernel) ⟨Nat.le_of_ble_eq_true rfl, Nat.le_of_ble_eq_true rfl⟩) 0 6 rfl rfl rfl rfl hl.1 rfl (Nat.le_of_ble_eq_true rfl) dX7_init_143 ⟨Nat.le_of_ble_eq_true rfl, Nat.le_of_ble_eq_true rfl⟩ (fun H locs hP hD hS => ?_)
    refine lv_iinc (v := nI (k + 1)) (lv' := [(1, .int (nI (k + 1))), (0, .ref ax)]) hx hb dX7_init_146 hl (k := 0) rfl (by rw [← nI_n1]; rfl) (by decide) rfl (fun ls hl => ?_)
    refine lv_goto (tgt := 124) hx hb dX7_init_149 (by decide) ?_
    exact ih (k + 1) (by omega) y1 f1 hy1 hf1 H locs ls hP hD hS hl
end X7LOOP

set_option maxHeartbeats 4000000 in
set_option maxRecDepth 100000 in
theorem c_X7_init (l : Launch) (D : va_G) (cI cC cM : ClassId) (tx tv ax : Nat) : ∀ sz : Nat, Met l yX7_init wsX7_init rm_X7_init (va_Pc [.ref ax] (PN7 D cI cC cM tx tv [(ax, .inr (7, [.null, .null, .null, .null, .null, .null, .null, .null, .null]))] sz)) (QN D (X7post cI cC cM ax) (va_A [(ax, .inr (7, [.null, .null, .null, .null, .null, .null, .null, .null, .null]))] sz)) 88 710 (va_A [(ax, .inr (7, [.null, .null, .null, .null, .null, .null, .null, .null, .null]))] sz) := fun sz => by
  refine Met.ofW (cc := cX7_init) (maxL := 2) (ret := none) (by decide) rfl ?_
  intro p e s m args below meth c s₁ B hml hv
  obtain ⟨rfl, hsz, hP, ⟨hK, hO, hV⟩, hD, hX⟩ := hv
  subst hsz
  have hl := lv_entry [.ref ax] (n := 2) (Nat.le_of_ble_eq_true rfl)
  rw [lg_entry_eq]
  have hl : lv_has _ 2 [(0, .ref ax)] := hl
  generalize (lg_sl ([.ref ax]) ++ List.replicate (2 - (lg_sl ([.ref ax])).length) Slot.unset).toArray = ls at hl ⊢
  have hin : meth.name = "<init>" := (name_of_methodNamed B.named B.method).1
  have hC : Ctx p s m _ meth c D cI cC cM (va_A [(ax, .inr (7, [.null, .null, .null, .null, .null, .null, .null, .null, .null]))] s.heap.size) RX7 cX7_init 2 none wsX7_init := ⟨B.exec, B.bytes, hml, findClass_of_methodNamed B.named, atoms_spec (ws := wsX7_init) B.pre, B.returns, B.notSynchronized, hK, fun q h => Or.inr h⟩
  have hD := hD.self (sz := s.heap.size)
  have hS : va_S (va_A [(ax, .inr (7, [.null, .null, .null, .null, .null, .null, .null, .null, .null]))] s.heap.size) s.heap s.heap [] := va_S.rf
  generalize hAA : va_A [(ax, .inr (7, [.null, .null, .null, .null, .null, .null, .null, .null, .null]))] s.heap.size = A at *
  generalize [Value.ref ax].toArray = args at *
  obtain ⟨hx, hb, hml, hown, hts, hr, hlk, hG, hA⟩ := id hC
  have hown : s.vm.findClass RX7 = some m.cls := hown
  have hK := hG.1
  have k_oi := hts (.methodLink RX7 1 objectInit) (List.mem_of_getElem? (i := 1) rfl)
  have k_oim := hts (.instanceMethod objectInit) (List.mem_of_getElem? (i := 2) rfl)
  have k_oic := hts (.code objectInit ⟨#[0xb1]⟩ 1 none) (List.mem_of_getElem? (i := 3) rfl)
  have k_c7 := hts (.classLink RX7 7 RX6) (List.mem_of_getElem? (i := 4) rfl)
  have k_in6 := hts (.instantiable RX6 2) (List.mem_of_getElem? (i := 5) rfl)
  have k_ini6 := hts (.initialized RX6) (List.mem_of_getElem? (i := 6) rfl)
  have k_im6 := hts (.instanceMethod yX6_init) (List.mem_of_getElem? (i := 34) rfl)
  have k_f10 := hts (.fieldLink RX7 10 "ParasolHours" "text" "LParasolHours$Text;") (List.mem_of_getElem? (i := 7) rfl)
  have k_c16 := hts (.classLink RX7 16 RX3) (List.mem_of_getElem? (i := 8) rfl)
  have k_in3 := hts (.instantiable RX3 3) (List.mem_of_getElem? (i := 9) rfl)
  have k_ini3 := hts (.initialized RX3) (List.mem_of_getElem? (i := 10) rfl)
  have k_im3 := hts (.instanceMethod yX3_init) (List.mem_of_getElem? (i := 39) rfl)
  have k_f19 := hts (.fieldLink RX7 19 "ParasolHours" "reader" "LParasolHours$Reader;") (List.mem_of_getElem? (i := 11) rfl)
  have k_c23 := hts (.classLink RX7 23 RX2) (List.mem_of_getElem? (i := 12) rfl)
  have k_in2 := hts (.instantiable RX2 7) (List.mem_of_getElem? (i := 13) rfl)
  have k_ini2 := hts (.initialized RX2) (List.mem_of_getElem? (i := 14) rfl)
  have k_im2 := hts (.instanceMethod yX2_init) (List.mem_of_getElem? (i := 48) rfl)
  have k_f26 := hts (.fieldLink RX7 26 "ParasolHours" "plan" "LParasolHours$Plan;") (List.mem_of_getElem? (i := 15) rfl)
  have k_c30 := hts (.classLink RX7 30 RX1) (List.mem_of_getElem? (i := 16) rfl)
  have k_in1 := hts (.instantiable RX1 9) (List.mem_of_getElem? (i := 17) rfl)
  have k_ini1 := hts (.initialized RX1) (List.mem_of_getElem? (i := 18) rfl)
  have k_im1 := hts (.instanceMethod yX1_init) (List.mem_of_getElem? (i := 55) rfl)
  have k_ml32 := hts (.methodLink RX7 32 yX1_init) (List.mem_of_getElem? (i := 63) rfl)
  have k_f35 := hts (.fieldLink RX7 35 "ParasolHours" "now" "LParasolHours$Moment;") (List.mem_of_getElem? (i := 19) rfl)
  have k_f39 := hts (.fieldLink RX7 39 "ParasolHours" "trial" "LParasolHours$Moment;") (List.mem_of_getElem? (i := 20) rfl)
  have k_c42 := hts (.classLink RX7 42 RX4) (List.mem_of_getElem? (i := 21) rfl)
  have k_in4 := hts (.instantiable RX4 2) (List.mem_of_getElem? (i := 22) rfl)
  have k_ini4 := hts (.initialized RX4) (List.mem_of_getElem? (i := 23) rfl)
  have k_im4 := hts (.instanceMethod yX4_init) (List.mem_of_getElem? (i := 65) rfl)
  have k_ml44 := hts (.methodLink RX7 44 yX4_init) (List.mem_of_getElem? (i := 64) rfl)
  have k_f47 := hts (.fieldLink RX7 47 "ParasolHours" "past" "LParasolHours$Shelf;") (List.mem_of_getElem? (i := 24) rfl)
  have k_f51 := hts (.fieldLink RX7 51 "ParasolHours" "kept" "LParasolHours$Shelf;") (List.mem_of_getElem? (i := 25) rfl)
  have k_c54 := hts (.classLink RX7 54 RX5) (List.mem_of_getElem? (i := 26) rfl)
  have k_in5 := hts (.instantiable RX5 3) (List.mem_of_getElem? (i := 27) rfl)
  have k_ini5 := hts (.initialized RX5) (List.mem_of_getElem? (i := 28) rfl)
  have k_im5 := hts (.instanceMethod yX5_init) (List.mem_of_getElem? (i := 71) rfl)
  have k_f57 := hts (.fieldLink RX7 57 "ParasolHours" "seen" "LParasolHours$Sightings;") (List.mem_of_getElem? (i := 29) rfl)
  have k_c61 := hts (.classLink RX7 61 RX0) (List.mem_of_getElem? (i := 30) rfl)
  have k_in0 := hts (.instantiable RX0 4) (List.mem_of_getElem? (i := 31) rfl)
  have k_ini0 := hts (.initialized RX0) (List.mem_of_getElem? (i := 32) rfl)
  have k_im0 := hts (.instanceMethod yX0_init) (List.mem_of_getElem? (i := 76) rfl)
  have k_f64 := hts (.fieldLink RX7 64 "ParasolHours" "dealt" "LParasolHours$Deal;") (List.mem_of_getElem? (i := 33) rfl)
  have iX0 : ∀ w ∈ wsX00, w ∈ wsX7_init := by decide +kernel
  have iX1 : ∀ w ∈ wsX10, w ∈ wsX7_init := by decide +kernel
  have iX2 : ∀ w ∈ wsX20, w ∈ wsX7_init := by decide +kernel
  have iX3 : ∀ w ∈ wsX30, w ∈ wsX7_init := by decide +kernel
  have iX4 : ∀ w ∈ wsX40, w ∈ wsX7_init := by decide +kernel
  have iX5 : ∀ w ∈ wsX50, w ∈ wsX7_init := by decide +kernel
  have iX6 : ∀ w ∈ wsX60, w ∈ wsX7_init := by decide +kernel
  have iX7 : ∀ w ∈ wsX70, w ∈ wsX7_init := by decide +kernel
  generalize hQ : MQ below (QN D (X7post cI cC cM ax) A) args s 88 710 A = Q
  refine lv_aload_n hx hb dX7_init_0 rfl (lv_at hl 0 rfl) ?_
  refine W.objInit hx hb hown k_oi k_oim k_oic rfl (by rw [hml]; exact hl.1) rfl dX7_init_1 (Nat.le_of_ble_eq_true rfl) (Nat.le_of_ble_eq_true rfl) ?_
  refine W.eq (g2 := F0 m 4 ls []) rfl ?_
  refine lv_aload_n hx hb dX7_init_4 rfl (lv_at hl 0 rfl) ?_
  refine va_new (ci := 6) (fs := [.null, .int 0]) (C := RX6) (T := TX6) (N := 2) hx hb hts iX6 tyX6 tyX6_ok hown k_c7 k_in6 k_ini6 hK hP hD hS hA rfl (fun j hj => by rcases (show j = 0 ∨ j = 1 by omega) with rfl | rfl <;> rfl) (Nat.le_of_ble_eq_true rfl) (Nat.le_of_ble_eq_true rfl) dX7_init_5 (fun ay H hP hD hS => ?_)
  refine W.widen (k := 1) (n := 2) (by omega) (by omega) ?_
  refine lv_dup hx hb dX7_init_8 rfl ?_
  refine pCN (As := []) (rest := [.ref ay, .ref ax]) hC hO hP hD hS (c_X6_init l D cI cC cM ay) List.perm_append_comm ⟨va_cnB 0 hts gX7_init_X6_init_n9 rfl rfl rfl (hG.nw 0 rfl) k_ini6 (by decide +kernel) ⟨Nat.le_of_ble_eq_true rfl, Nat.le_of_ble_eq_true rfl⟩, rfl, k_im6⟩ rfl hl.1 rfl (Nat.le_of_ble_eq_true rfl) dX7_init_9 ⟨Nat.le_of_ble_eq_true rfl, Nat.le_of_ble_eq_true rfl⟩ (fun wy H locs hwy hP hD hS => ?_)
  have hP := hP.perm List.perm_middle
  have hD := hD.perm List.perm_middle
  have hP : va_P D vwCl ((ax, .inr (7, [.null, .null, .null, .null, .null, .null, .null, .null, .null])) :: (wy ++ [])) H := hP
  have hD : va_D A ((ax, .inr (7, [.null, .null, .null, .null, .null, .null, .null, .null, .null])) :: (wy ++ [])) := hD
  refine W.widen (k := 2) (n := 202) (by omega) (by omega) ?_
  refine va_putF (D := D) (ci := 7) (v := .ref ay) (ty := .object "ParasolHours$Text") (C := RX7) (T := TX7) (N := 9) hx hb hts iX7 tyX7 tyX7_ok nmX7 hown hK hP hD hS 0 rfl rfl 0 (by decide) k_f10 (fun _ h9 => h9) rfl hin rfl (by decide +kernel) rfl rfl (Nat.le_of_ble_eq_true rfl) dX7_init_12 (fun H locs hP hD hS => ?_)
  have hP : va_P D vwCl ((ax, .inr (7, [.ref ay, .null, .null, .null, .null, .null, .null, .null, .null])) :: (wy ++ [])) H := hP
  have hD : va_D A ((ax, .inr (7, [.ref ay, .null, .null, .null, .null, .null, .null, .null, .null])) :: (wy ++ [])) := hD
  refine lv_aload_n hx hb dX7_init_15 rfl (lv_at hl 0 rfl) ?_
  refine va_new (ci := 3) (fs := [.null, .null, .null]) (C := RX3) (T := TX3) (N := 3) hx hb hts iX3 tyX3 tyX3_ok hown k_c16 k_in3 k_ini3 hK hP hD hS hA rfl (fun j hj => by rcases (show j = 0 ∨ j = 1 ∨ j = 2 by omega) with rfl | rfl | rfl <;> rfl) (Nat.le_of_ble_eq_true rfl) (Nat.le_of_ble_eq_true rfl) dX7_init_16 (fun ar H hP hD hS => ?_)
  refine W.widen (k := 3) (n := 205) (by omega) (by omega) ?_
  refine lv_dup hx hb dX7_init_19 rfl ?_
  refine pCN (As := []) (rest := [.ref ar, .ref ax]) hC hO hP hD hS (c_X3_init l D cI cC cM ar) List.perm_append_comm ⟨va_cnB 0 hts gX7_init_X3_init_n18 rfl rfl rfl (hG.nw 1 rfl) k_ini3 (by decide +kernel) ⟨Nat.le_of_ble_eq_true rfl, Nat.le_of_ble_eq_true rfl⟩, rfl, k_im3⟩ rfl hl.1 rfl (Nat.le_of_ble_eq_true rfl) dX7_init_20 ⟨Nat.le_of_ble_eq_true rfl, Nat.le_of_ble_eq_true rfl⟩ (fun wr H locs hwr hP hD hS => ?_)
  have hP := hP.perm List.perm_middle
  have hD := hD.perm List.perm_middle
  have hP : va_P D vwCl ((ax, .inr (7, [.ref ay, .null, .null, .null, .null, .null, .null, .null, .null])) :: (wr ++ (wy ++ []))) H := hP
  have hD : va_D A ((ax, .inr (7, [.ref ay, .null, .null, .null, .null, .null, .null, .null, .null])) :: (wr ++ (wy ++ []))) := hD
  refine W.widen (k := 13) (n := 264) (by omega) (by omega) ?_
  refine va_putF (D := D) (ci := 7) (v := .ref ar) (ty := .object "ParasolHours$Reader") (C := RX7) (T := TX7) (N := 9) hx hb hts iX7 tyX7 tyX7_ok nmX7 hown hK hP hD hS 0 rfl rfl 1 (by decide) k_f19 (fun _ h9 => h9) rfl hin rfl (by decide +kernel) rfl rfl (Nat.le_of_ble_eq_true rfl) dX7_init_23 (fun H locs hP hD hS => ?_)
  have hP : va_P D vwCl ((ax, .inr (7, [.ref ay, .ref ar, .null, .null, .null, .null, .null, .null, .null])) :: (wr ++ (wy ++ []))) H := hP
  have hD : va_D A ((ax, .inr (7, [.ref ay, .ref ar, .null, .null, .null, .null, .null, .null, .null])) :: (wr ++ (wy ++ []))) := hD
  refine lv_aload_n hx hb dX7_init_26 rfl (lv_at hl 0 rfl) ?_
  refine va_new (ci := 2) (fs := [.int 0, .int 0, .int 0, .int 0, .null, .null, .null]) (C := RX2) (T := TX2) (N := 7) hx hb hts iX2 tyX2 tyX2_ok hown k_c23 k_in2 k_ini2 hK hP hD hS hA rfl (fun j hj => by rcases (show j = 0 ∨ j = 1 ∨ j = 2 ∨ j = 3 ∨ j = 4 ∨ j = 5 ∨ j = 6 by omega) with rfl | rfl | rfl | rfl | rfl | rfl | rfl <;> rfl) (Nat.le_of_ble_eq_true rfl) (Nat.le_of_ble_eq_true rfl) dX7_init_27 (fun ap H hP hD hS => ?_)
  refine W.widen (k := 14) (n := 271) (by omega) (by omega) ?_
  refine lv_dup hx hb dX7_init_30 rfl ?_
  refine pCN (As := []) (rest := [.ref ap, .ref ax]) hC hO hP hD hS (c_X2_init l D cI cC cM ap) List.perm_append_comm ⟨va_cnB 0 hts gX7_init_X2_init_n25 rfl rfl rfl (hG.nw 3 rfl) k_ini2 (by decide +kernel) ⟨Nat.le_of_ble_eq_true rfl, Nat.le_of_ble_eq_true rfl⟩, rfl, k_im2⟩ rfl hl.1 rfl (Nat.le_of_ble_eq_true rfl) dX7_init_31 ⟨Nat.le_of_ble_eq_true rfl, Nat.le_of_ble_eq_true rfl⟩ (fun wp H locs hwp hP hD hS => ?_)
  have hP := hP.perm List.perm_middle
  have hD := hD.perm List.perm_middle
  have hP : va_P D vwCl ((ax, .inr (7, [.ref ay, .ref ar, .null, .null, .null, .null, .null, .null, .null])) :: (wp ++ (wr ++ (wy ++ [])))) H := hP
  have hD : va_D A ((ax, .inr (7, [.ref ay, .ref ar, .null, .null, .null, .null, .null, .null, .null])) :: (wp ++ (wr ++ (wy ++ [])))) := hD
  refine W.widen (k := 17) (n := 289) (by omega) (by omega) ?_
  refine va_putF (D := D) (ci := 7) (v := .ref ap) (ty := .object "ParasolHours$Plan") (C := RX7) (T := TX7) (N := 9) hx hb hts iX7 tyX7 tyX7_ok nmX7 hown hK hP hD hS 0 rfl rfl 2 (by decide) k_f26 (fun _ h9 => h9) rfl hin rfl (by decide +kernel) rfl rfl (Nat.le_of_ble_eq_true rfl) dX7_init_34 (fun H locs hP hD hS => ?_)
  have hP : va_P D vwCl ((ax, .inr (7, [.ref ay, .ref ar, .ref ap, .null, .null, .null, .null, .null, .null])) :: (wp ++ (wr ++ (wy ++ [])))) H := hP
  have hD : va_D A ((ax, .inr (7, [.ref ay, .ref ar, .ref ap, .null, .null, .null, .null, .null, .null])) :: (wp ++ (wr ++ (wy ++ [])))) := hD
  refine lv_aload_n hx hb dX7_init_37 rfl (lv_at hl 0 rfl) ?_
  refine va_new (ci := 1) (fs := [.null, .int 0, .int 0, .int 0, .int 0, .null, .null, .null, .null]) (C := RX1) (T := TX1) (N := 9) hx hb hts iX1 tyX1 tyX1_ok hown k_c30 k_in1 k_ini1 hK hP hD hS hA rfl (fun j hj => by rcases (show j = 0 ∨ j = 1 ∨ j = 2 ∨ j = 3 ∨ j = 4 ∨ j = 5 ∨ j = 6 ∨ j = 7 ∨ j = 8 by omega) with rfl | rfl | rfl | rfl | rfl | rfl | rfl | rfl | rfl <;> rfl) (Nat.le_of_ble_eq_true rfl) (Nat.le_of_ble_eq_true rfl) dX7_init_38 (fun aq H hP hD hS => ?_)
  refine W.widen (k := 18) (n := 298) (by omega) (by omega) ?_
  refine lv_dup hx hb dX7_init_41 rfl ?_
  refine lv_aload_n hx hb dX7_init_42 rfl (lv_at hl 0 rfl) ?_
  refine va_get (D := D) (ci := 7) (v := .ref ap) (C := RX7) (T := TX7) (N := 9) hx hb hts iX7 hown hK hP 0 rfl rfl 2 (by decide) k_f26 (fun _ h9 => h9) rfl dX7_init_43 ?_
  refine pCI (As := [.ref ap]) (rest := [.ref aq, .ref ax]) hC hO hP hD hS (c_X1_init l D cI cC cM aq ap) List.perm_append_comm (cwI 1 hts gX7_init_X1_init rfl rfl rfl k_ini1 k_ml32 k_im1 rfl (by decide +kernel) ⟨Nat.le_of_ble_eq_true rfl, Nat.le_of_ble_eq_true rfl⟩) rfl hl.1 rfl (Nat.le_of_ble_eq_true rfl) dX7_init_46 ⟨Nat.le_of_ble_eq_true rfl, Nat.le_of_ble_eq_true rfl⟩ (fun wq H locs hwq hP hD hS => ?_)
  have hP := hP.perm List.perm_middle
  have hD := hD.perm List.perm_middle
  have hP : va_P D vwCl ((ax, .inr (7, [.ref ay, .ref ar, .ref ap, .null, .null, .null, .null, .null, .null])) :: (wq ++ (wp ++ (wr ++ (wy ++ []))))) H := hP
  have hD : va_D A ((ax, .inr (7, [.ref ay, .ref ar, .ref ap, .null, .null, .null, .null, .null, .null])) :: (wq ++ (wp ++ (wr ++ (wy ++ []))))) := hD
  refine W.widen (k := 22) (n := 320) (by omega) (by omega) ?_
  refine va_putF (D := D) (ci := 7) (v := .ref aq) (ty := .object "ParasolHours$Moment") (C := RX7) (T := TX7) (N := 9) hx hb hts iX7 tyX7 tyX7_ok nmX7 hown hK hP hD hS 0 rfl rfl 3 (by decide) k_f35 (fun _ h9 => h9) rfl hin rfl (by decide +kernel) rfl rfl (Nat.le_of_ble_eq_true rfl) dX7_init_49 (fun H locs hP hD hS => ?_)
  have hP : va_P D vwCl ((ax, .inr (7, [.ref ay, .ref ar, .ref ap, .ref aq, .null, .null, .null, .null, .null])) :: (wq ++ (wp ++ (wr ++ (wy ++ []))))) H := hP
  have hD : va_D A ((ax, .inr (7, [.ref ay, .ref ar, .ref ap, .ref aq, .null, .null, .null, .null, .null])) :: (wq ++ (wp ++ (wr ++ (wy ++ []))))) := hD
  refine lv_aload_n hx hb dX7_init_52 rfl (lv_at hl 0 rfl) ?_
  refine va_new (ci := 1) (fs := [.null, .int 0, .int 0, .int 0, .int 0, .null, .null, .null, .null]) (C := RX1) (T := TX1) (N := 9) hx hb hts iX1 tyX1 tyX1_ok hown k_c30 k_in1 k_ini1 hK hP hD hS hA rfl (fun j hj => by rcases (show j = 0 ∨ j = 1 ∨ j = 2 ∨ j = 3 ∨ j = 4 ∨ j = 5 ∨ j = 6 ∨ j = 7 ∨ j = 8 by omega) with rfl | rfl | rfl | rfl | rfl | rfl | rfl | rfl | rfl <;> rfl) (Nat.le_of_ble_eq_true rfl) (Nat.le_of_ble_eq_true rfl) dX7_init_53 (fun aj H hP hD hS => ?_)
  refine W.widen (k := 23) (n := 329) (by omega) (by omega) ?_
  refine lv_dup hx hb dX7_init_56 rfl ?_
  refine lv_aload_n hx hb dX7_init_57 rfl (lv_at hl 0 rfl) ?_
  refine va_get (D := D) (ci := 7) (v := .ref ap) (C := RX7) (T := TX7) (N := 9) hx hb hts iX7 hown hK hP 0 rfl rfl 2 (by decide) k_f26 (fun _ h9 => h9) rfl dX7_init_58 ?_
  refine pCI (As := [.ref ap]) (rest := [.ref aj, .ref ax]) hC hO hP hD hS (c_X1_init l D cI cC cM aj ap) List.perm_append_comm (cwI 1 hts gX7_init_X1_init rfl rfl rfl k_ini1 k_ml32 k_im1 rfl (by decide +kernel) ⟨Nat.le_of_ble_eq_true rfl, Nat.le_of_ble_eq_true rfl⟩) rfl hl.1 rfl (Nat.le_of_ble_eq_true rfl) dX7_init_61 ⟨Nat.le_of_ble_eq_true rfl, Nat.le_of_ble_eq_true rfl⟩ (fun wj H locs hwj hP hD hS => ?_)
  have hP := hP.perm List.perm_middle
  have hD := hD.perm List.perm_middle
  have hP : va_P D vwCl ((ax, .inr (7, [.ref ay, .ref ar, .ref ap, .ref aq, .null, .null, .null, .null, .null])) :: (wj ++ (wq ++ (wp ++ (wr ++ (wy ++ [])))))) H := hP
  have hD : va_D A ((ax, .inr (7, [.ref ay, .ref ar, .ref ap, .ref aq, .null, .null, .null, .null, .null])) :: (wj ++ (wq ++ (wp ++ (wr ++ (wy ++ [])))))) := hD
  refine W.widen (k := 27) (n := 351) (by omega) (by omega) ?_
  refine va_putF (D := D) (ci := 7) (v := .ref aj) (ty := .object "ParasolHours$Moment") (C := RX7) (T := TX7) (N := 9) hx hb hts iX7 tyX7 tyX7_ok nmX7 hown hK hP hD hS 0 rfl rfl 4 (by decide) k_f39 (fun _ h9 => h9) rfl hin rfl (by decide +kernel) rfl rfl (Nat.le_of_ble_eq_true rfl) dX7_init_64 (fun H locs hP hD hS => ?_)
  have hP : va_P D vwCl ((ax, .inr (7, [.ref ay, .ref ar, .ref ap, .ref aq, .ref aj, .null, .null, .null, .null])) :: (wj ++ (wq ++ (wp ++ (wr ++ (wy ++ [])))))) H := hP
  have hD : va_D A ((ax, .inr (7, [.ref ay, .ref ar, .ref ap, .ref aq, .ref aj, .null, .null, .null, .null])) :: (wj ++ (wq ++ (wp ++ (wr ++ (wy ++ [])))))) := hD
  refine lv_aload_n hx hb dX7_init_67 rfl (lv_at hl 0 rfl) ?_
  refine va_new (ci := 4) (fs := [.null, .int 0]) (C := RX4) (T := TX4) (N := 2) hx hb hts iX4 tyX4 tyX4_ok hown k_c42 k_in4 k_ini4 hK hP hD hS hA rfl (fun j hj => by rcases (show j = 0 ∨ j = 1 by omega) with rfl | rfl <;> rfl) (Nat.le_of_ble_eq_true rfl) (Nat.le_of_ble_eq_true rfl) dX7_init_68 (fun az H hP hD hS => ?_)
  refine W.widen (k := 28) (n := 353) (by omega) (by omega) ?_
  refine lv_dup hx hb dX7_init_71 rfl ?_
  refine lv_bipush (v := (8 : Int32)) hx hb dX7_init_72 (by decide) ?_
  refine lv_aload_n hx hb dX7_init_74 rfl (lv_at hl 0 rfl) ?_
  refine va_get (D := D) (ci := 7) (v := .ref ap) (C := RX7) (T := TX7) (N := 9) hx hb hts iX7 hown hK hP 0 rfl rfl 2 (by decide) k_f26 (fun _ h9 => h9) rfl dX7_init_75 ?_
  refine pCI (As := [.int (8 : Int32), .ref ap]) (rest := [.ref az, .ref ax]) hC hO hP hD hS (c_X4_init8 l D cI cC cM az ap) List.perm_append_comm (cwI 2 hts gX7_init_X4_init rfl rfl rfl k_ini4 k_ml44 k_im4 rfl (by decide +kernel) ⟨Nat.le_of_ble_eq_true rfl, Nat.le_of_ble_eq_true rfl⟩) rfl hl.1 rfl (Nat.le_of_ble_eq_true rfl) dX7_init_78 ⟨Nat.le_of_ble_eq_true rfl, Nat.le_of_ble_eq_true rfl⟩ (fun wz H locs hwz hP hD hS => ?_)
  have hP := hP.perm List.perm_middle
  have hD := hD.perm List.perm_middle
  have hP : va_P D vwCl ((ax, .inr (7, [.ref ay, .ref ar, .ref ap, .ref aq, .ref aj, .null, .null, .null, .null])) :: (wz ++ (wj ++ (wq ++ (wp ++ (wr ++ (wy ++ []))))))) H := hP
  have hD : va_D A ((ax, .inr (7, [.ref ay, .ref ar, .ref ap, .ref aq, .ref aj, .null, .null, .null, .null])) :: (wz ++ (wj ++ (wq ++ (wp ++ (wr ++ (wy ++ []))))))) := hD
  refine W.widen (k := 69) (n := 609) (by omega) (by omega) ?_
  refine va_putF (D := D) (ci := 7) (v := .ref az) (ty := .object "ParasolHours$Shelf") (C := RX7) (T := TX7) (N := 9) hx hb hts iX7 tyX7 tyX7_ok nmX7 hown hK hP hD hS 0 rfl rfl 5 (by decide) k_f47 (fun _ h9 => h9) rfl hin rfl (by decide +kernel) rfl rfl (Nat.le_of_ble_eq_true rfl) dX7_init_81 (fun H locs hP hD hS => ?_)
  have hP : va_P D vwCl ((ax, .inr (7, [.ref ay, .ref ar, .ref ap, .ref aq, .ref aj, .ref az, .null, .null, .null])) :: (wz ++ (wj ++ (wq ++ (wp ++ (wr ++ (wy ++ []))))))) H := hP
  have hD : va_D A ((ax, .inr (7, [.ref ay, .ref ar, .ref ap, .ref aq, .ref aj, .ref az, .null, .null, .null])) :: (wz ++ (wj ++ (wq ++ (wp ++ (wr ++ (wy ++ []))))))) := hD
  refine lv_aload_n hx hb dX7_init_84 rfl (lv_at hl 0 rfl) ?_
  refine va_new (ci := 4) (fs := [.null, .int 0]) (C := RX4) (T := TX4) (N := 2) hx hb hts iX4 tyX4 tyX4_ok hown k_c42 k_in4 k_ini4 hK hP hD hS hA rfl (fun j hj => by rcases (show j = 0 ∨ j = 1 by omega) with rfl | rfl <;> rfl) (Nat.le_of_ble_eq_true rfl) (Nat.le_of_ble_eq_true rfl) dX7_init_85 (fun ak H hP hD hS => ?_)
  refine W.widen (k := 70) (n := 611) (by omega) (by omega) ?_
  refine lv_dup hx hb dX7_init_88 rfl ?_
  refine lv_iconst (v := (2 : Int32)) hx hb dX7_init_89 (by decide) ?_
  refine lv_aload_n hx hb dX7_init_90 rfl (lv_at hl 0 rfl) ?_
  refine va_get (D := D) (ci := 7) (v := .ref ap) (C := RX7) (T := TX7) (N := 9) hx hb hts iX7 hown hK hP 0 rfl rfl 2 (by decide) k_f26 (fun _ h9 => h9) rfl dX7_init_91 ?_
  refine pCI (As := [.int (2 : Int32), .ref ap]) (rest := [.ref ak, .ref ax]) hC hO hP hD hS (c_X4_init2 l D cI cC cM ak ap) List.perm_append_comm (cwI 2 hts gX7_init_X4_init rfl rfl rfl k_ini4 k_ml44 k_im4 rfl (by decide +kernel) ⟨Nat.le_of_ble_eq_true rfl, Nat.le_of_ble_eq_true rfl⟩) rfl hl.1 rfl (Nat.le_of_ble_eq_true rfl) dX7_init_94 ⟨Nat.le_of_ble_eq_true rfl, Nat.le_of_ble_eq_true rfl⟩ (fun wk H locs hwk hP hD hS => ?_)
  have hP := hP.perm List.perm_middle
  have hD := hD.perm List.perm_middle
  have hP : va_P D vwCl ((ax, .inr (7, [.ref ay, .ref ar, .ref ap, .ref aq, .ref aj, .ref az, .null, .null, .null])) :: (wk ++ (wz ++ (wj ++ (wq ++ (wp ++ (wr ++ (wy ++ [])))))))) H := hP
  have hD : va_D A ((ax, .inr (7, [.ref ay, .ref ar, .ref ap, .ref aq, .ref aj, .ref az, .null, .null, .null])) :: (wk ++ (wz ++ (wj ++ (wq ++ (wp ++ (wr ++ (wy ++ [])))))))) := hD
  refine W.widen (k := 81) (n := 675) (by omega) (by omega) ?_
  refine va_putF (D := D) (ci := 7) (v := .ref ak) (ty := .object "ParasolHours$Shelf") (C := RX7) (T := TX7) (N := 9) hx hb hts iX7 tyX7 tyX7_ok nmX7 hown hK hP hD hS 0 rfl rfl 6 (by decide) k_f51 (fun _ h9 => h9) rfl hin rfl (by decide +kernel) rfl rfl (Nat.le_of_ble_eq_true rfl) dX7_init_97 (fun H locs hP hD hS => ?_)
  have hP : va_P D vwCl ((ax, .inr (7, [.ref ay, .ref ar, .ref ap, .ref aq, .ref aj, .ref az, .ref ak, .null, .null])) :: (wk ++ (wz ++ (wj ++ (wq ++ (wp ++ (wr ++ (wy ++ [])))))))) H := hP
  have hD : va_D A ((ax, .inr (7, [.ref ay, .ref ar, .ref ap, .ref aq, .ref aj, .ref az, .ref ak, .null, .null])) :: (wk ++ (wz ++ (wj ++ (wq ++ (wp ++ (wr ++ (wy ++ [])))))))) := hD
  refine lv_aload_n hx hb dX7_init_100 rfl (lv_at hl 0 rfl) ?_
  refine va_new (ci := 5) (fs := [.null, .null, .int 0]) (C := RX5) (T := TX5) (N := 3) hx hb hts iX5 tyX5 tyX5_ok hown k_c54 k_in5 k_ini5 hK hP hD hS hA rfl (fun j hj => by rcases (show j = 0 ∨ j = 1 ∨ j = 2 by omega) with rfl | rfl | rfl <;> rfl) (Nat.le_of_ble_eq_true rfl) (Nat.le_of_ble_eq_true rfl) dX7_init_101 (fun ae H hP hD hS => ?_)
  refine W.widen (k := 82) (n := 678) (by omega) (by omega) ?_
  refine lv_dup hx hb dX7_init_104 rfl ?_
  refine pCN (As := []) (rest := [.ref ae, .ref ax]) hC hO hP hD hS (c_X5_init l D cI cC cM ae) List.perm_append_comm ⟨va_cnB 0 hts gX7_init_X5_init_n56 rfl rfl rfl (hG.nw 4 rfl) k_ini5 (by decide +kernel) ⟨Nat.le_of_ble_eq_true rfl, Nat.le_of_ble_eq_true rfl⟩, rfl, k_im5⟩ rfl hl.1 rfl (Nat.le_of_ble_eq_true rfl) dX7_init_105 ⟨Nat.le_of_ble_eq_true rfl, Nat.le_of_ble_eq_true rfl⟩ (fun we H locs hwe hP hD hS => ?_)
  have hP := hP.perm List.perm_middle
  have hD := hD.perm List.perm_middle
  have hP : va_P D vwCl ((ax, .inr (7, [.ref ay, .ref ar, .ref ap, .ref aq, .ref aj, .ref az, .ref ak, .null, .null])) :: (we ++ (wk ++ (wz ++ (wj ++ (wq ++ (wp ++ (wr ++ (wy ++ []))))))))) H := hP
  have hD : va_D A ((ax, .inr (7, [.ref ay, .ref ar, .ref ap, .ref aq, .ref aj, .ref az, .ref ak, .null, .null])) :: (we ++ (wk ++ (wz ++ (wj ++ (wq ++ (wp ++ (wr ++ (wy ++ []))))))))) := hD
  refine W.widen (k := 84) (n := 690) (by omega) (by omega) ?_
  refine va_putF (D := D) (ci := 7) (v := .ref ae) (ty := .object "ParasolHours$Sightings") (C := RX7) (T := TX7) (N := 9) hx hb hts iX7 tyX7 tyX7_ok nmX7 hown hK hP hD hS 0 rfl rfl 7 (by decide) k_f57 (fun _ h9 => h9) rfl hin rfl (by decide +kernel) rfl rfl (Nat.le_of_ble_eq_true rfl) dX7_init_108 (fun H locs hP hD hS => ?_)
  have hP : va_P D vwCl ((ax, .inr (7, [.ref ay, .ref ar, .ref ap, .ref aq, .ref aj, .ref az, .ref ak, .ref ae, .null])) :: (we ++ (wk ++ (wz ++ (wj ++ (wq ++ (wp ++ (wr ++ (wy ++ []))))))))) H := hP
  have hD : va_D A ((ax, .inr (7, [.ref ay, .ref ar, .ref ap, .ref aq, .ref aj, .ref az, .ref ak, .ref ae, .null])) :: (we ++ (wk ++ (wz ++ (wj ++ (wq ++ (wp ++ (wr ++ (wy ++ []))))))))) := hD
  refine lv_aload_n hx hb dX7_init_111 rfl (lv_at hl 0 rfl) ?_
  refine va_new (ci := 0) (fs := [.null, .null, .null, .int 0]) (C := RX0) (T := TX0) (N := 4) hx hb hts iX0 tyX0 tyX0_ok hown k_c61 k_in0 k_ini0 hK hP hD hS hA rfl (fun j hj => by rcases (show j = 0 ∨ j = 1 ∨ j = 2 ∨ j = 3 by omega) with rfl | rfl | rfl | rfl <;> rfl) (Nat.le_of_ble_eq_true rfl) (Nat.le_of_ble_eq_true rfl) dX7_init_112 (fun ad H hP hD hS => ?_)
  refine W.widen (k := 85) (n := 694) (by omega) (by omega) ?_
  refine lv_dup hx hb dX7_init_115 rfl ?_
  refine pCN (As := []) (rest := [.ref ad, .ref ax]) hC hO hP hD hS (c_X0_init l D cI cC cM ad) List.perm_append_comm ⟨va_cnB 0 hts gX7_init_X0_init_n63 rfl rfl rfl (hG.nw 5 rfl) k_ini0 (by decide +kernel) ⟨Nat.le_of_ble_eq_true rfl, Nat.le_of_ble_eq_true rfl⟩, rfl, k_im0⟩ rfl hl.1 rfl (Nat.le_of_ble_eq_true rfl) dX7_init_116 ⟨Nat.le_of_ble_eq_true rfl, Nat.le_of_ble_eq_true rfl⟩ (fun wd H locs hwd hP hD hS => ?_)
  have hP := hP.perm List.perm_middle
  have hD := hD.perm List.perm_middle
  have hP : va_P D vwCl ((ax, .inr (7, [.ref ay, .ref ar, .ref ap, .ref aq, .ref aj, .ref az, .ref ak, .ref ae, .null])) :: (wd ++ (we ++ (wk ++ (wz ++ (wj ++ (wq ++ (wp ++ (wr ++ (wy ++ [])))))))))) H := hP
  have hD : va_D A ((ax, .inr (7, [.ref ay, .ref ar, .ref ap, .ref aq, .ref aj, .ref az, .ref ak, .ref ae, .null])) :: (wd ++ (we ++ (wk ++ (wz ++ (wj ++ (wq ++ (wp ++ (wr ++ (wy ++ [])))))))))) := hD
  refine W.widen (k := 88) (n := 710) (by omega) (by omega) ?_
  refine va_putF (D := D) (ci := 7) (v := .ref ad) (ty := .object "ParasolHours$Deal") (C := RX7) (T := TX7) (N := 9) hx hb hts iX7 tyX7 tyX7_ok nmX7 hown hK hP hD hS 0 rfl rfl 8 (by decide) k_f64 (fun _ h9 => h9) rfl hin rfl (by decide +kernel) rfl rfl (Nat.le_of_ble_eq_true rfl) dX7_init_119 (fun H locs hP hD hS => ?_)
  have hP : va_P D vwCl ((ax, .inr (7, [.ref ay, .ref ar, .ref ap, .ref aq, .ref aj, .ref az, .ref ak, .ref ae, .ref ad])) :: (wd ++ (we ++ (wk ++ (wz ++ (wj ++ (wq ++ (wp ++ (wr ++ (wy ++ [])))))))))) H := hP
  have hD : va_D A ((ax, .inr (7, [.ref ay, .ref ar, .ref ap, .ref aq, .ref aj, .ref az, .ref ak, .ref ae, .ref ad])) :: (wd ++ (we ++ (wk ++ (wz ++ (wj ++ (wq ++ (wp ++ (wr ++ (wy ++ [])))))))))) := hD
  refine lv_iconst (v := (0 : Int32)) hx hb dX7_init_122 (by decide) ?_
  refine lv_istore_n (lv' := [(1, .int (0 : Int32)), (0, .ref ax)]) hx hb dX7_init_123 rfl hl (by decide) rfl (fun ls hl => ?_)
  obtain ⟨ayl, rfl⟩ := hwy
  obtain ⟨arp, arpk, arpq, arpr, arm, armh, armw, arms, armu, arn, rfl⟩ := hwr
  obtain ⟨apk, apq, apr, rfl⟩ := hwp
  obtain ⟨aqh, aqw, aqs, aqu, rfl⟩ := hwq
  obtain ⟨ajh, ajw, ajs, aju, rfl⟩ := hwj
  obtain ⟨azr, za, zah, zaw, zaS, zau, rfl⟩ := hwz
  obtain ⟨akr, ka, kah, kaw, kaS, kau, rfl⟩ := hwk
  obtain ⟨aeh, aeb, rfl⟩ := hwe
  obtain ⟨adc, adb, adr, rfl⟩ := hwd
  have hP : va_P D vwCl (wl [(bX ax ay ar ap aq aj az ak ae ad), (bT cC ay ayl 0 (fun _ => 0)), (bRO ar arp arm arn), (bRN cI arn (fun _ => 0)), (bRM cI arp 0 0 0 0 arpk arpq arpr (fun _ => 0) (fun _ => 0) (fun _ => 0) arm 0 0 0 0 armh armw arms armu (fun _ => 0) (fun _ => 0) (fun _ => 0) (fun _ => 0)), (bP cI ap 0 0 0 0 apk apq apr (fun _ => 0) (fun _ => 0) (fun _ => 0)), (bQ cI aq ap 0 0 0 0 aqh aqw aqs aqu (fun _ => 0) (fun _ => 0) (fun _ => 0) (fun _ => 0)), (bJ cI aj ap 0 0 0 0 ajh ajw ajs aju (fun _ => 0) (fun _ => 0) (fun _ => 0) (fun _ => 0)), (bZO az azr 0), (bZM cI cM azr za ap V00 zah zaw zaS zau), (bKO ak akr 0), (bKM cI cM akr ka ap V00 kah kaw kaS kau), (bE cI ae aeh aeb 0 (fun _ => 0) (fun _ => 0)), (bD cI ad adc adb adr 0 (fun _ => 0) (fun _ => 0) (fun _ => 0))] [0, 13, 12, 10, 11, 8, 9, 7, 6, 5, 2, 4, 3, 1]) H := hP
  have hD : va_D A (wl [(bX ax ay ar ap aq aj az ak ae ad), (bT cC ay ayl 0 (fun _ => 0)), (bRO ar arp arm arn), (bRN cI arn (fun _ => 0)), (bRM cI arp 0 0 0 0 arpk arpq arpr (fun _ => 0) (fun _ => 0) (fun _ => 0) arm 0 0 0 0 armh armw arms armu (fun _ => 0) (fun _ => 0) (fun _ => 0) (fun _ => 0)), (bP cI ap 0 0 0 0 apk apq apr (fun _ => 0) (fun _ => 0) (fun _ => 0)), (bQ cI aq ap 0 0 0 0 aqh aqw aqs aqu (fun _ => 0) (fun _ => 0) (fun _ => 0) (fun _ => 0)), (bJ cI aj ap 0 0 0 0 ajh ajw ajs aju (fun _ => 0) (fun _ => 0) (fun _ => 0) (fun _ => 0)), (bZO az azr 0), (bZM cI cM azr za ap V00 zah zaw zaS zau), (bKO ak akr 0), (bKM cI cM akr ka ap V00 kah kaw kaS kau), (bE cI ae aeh aeb 0 (fun _ => 0) (fun _ => 0)), (bD cI ad adc adb adr 0 (fun _ => 0) (fun _ => 0) (fun _ => 0))] [0, 13, 12, 10, 11, 8, 9, 7, 6, 5, 2, 4, 3, 1]) := hD
  have hpp : (wl [(bX ax ay ar ap aq aj az ak ae ad), (bT cC ay ayl 0 (fun _ => 0)), (bRO ar arp arm arn), (bRN cI arn (fun _ => 0)), (bRM cI arp 0 0 0 0 arpk arpq arpr (fun _ => 0) (fun _ => 0) (fun _ => 0) arm 0 0 0 0 armh armw arms armu (fun _ => 0) (fun _ => 0) (fun _ => 0) (fun _ => 0)), (bP cI ap 0 0 0 0 apk apq apr (fun _ => 0) (fun _ => 0) (fun _ => 0)), (bQ cI aq ap 0 0 0 0 aqh aqw aqs aqu (fun _ => 0) (fun _ => 0) (fun _ => 0) (fun _ => 0)), (bJ cI aj ap 0 0 0 0 ajh ajw ajs aju (fun _ => 0) (fun _ => 0) (fun _ => 0) (fun _ => 0)), (bZO az azr 0), (bZM cI cM azr za ap V00 zah zaw zaS zau), (bKO ak akr 0), (bKM cI cM akr ka ap V00 kah kaw kaS kau), (bE cI ae aeh aeb 0 (fun _ => 0) (fun _ => 0)), (bD cI ad adc adb adr 0 (fun _ => 0) (fun _ => 0) (fun _ => 0))] [0, 13, 12, 10, 11, 8, 9, 7, 6, 5, 2, 4, 3, 1]).Perm (wl [(bX ax ay ar ap aq aj az ak ae ad), (bT cC ay ayl 0 (fun _ => 0)), (bRO ar arp arm arn), (bRN cI arn (fun _ => 0)), (bRM cI arp 0 0 0 0 arpk arpq arpr (fun _ => 0) (fun _ => 0) (fun _ => 0) arm 0 0 0 0 armh armw arms armu (fun _ => 0) (fun _ => 0) (fun _ => 0) (fun _ => 0)), (bP cI ap 0 0 0 0 apk apq apr (fun _ => 0) (fun _ => 0) (fun _ => 0)), (bQ cI aq ap 0 0 0 0 aqh aqw aqs aqu (fun _ => 0) (fun _ => 0) (fun _ => 0) (fun _ => 0)), (bJ cI aj ap 0 0 0 0 ajh ajw ajs aju (fun _ => 0) (fun _ => 0) (fun _ => 0) (fun _ => 0)), (bZO az azr 0), (bZM cI cM azr za ap V00 zah zaw zaS zau), (bKO ak akr 0), (bKM cI cM akr ka ap V00 kah kaw kaS kau), (bE cI ae aeh aeb 0 (fun _ => 0) (fun _ => 0)), (bD cI ad adc adb adr 0 (fun _ => 0) (fun _ => 0) (fun _ => 0))] iA7) := wcat_perm (List.isPerm_iff.mp (by decide +kernel))
  have hP := hP.perm hpp
  have hD := hD.perm hpp
  refine X7_loop hC hX hV (hts (.fieldLink RX7 10 "ParasolHours" "text" "LParasolHours$Text;") (List.mem_of_getElem? (i := 7) rfl)) (fun y84 ylet1 H locs ls hy84 h84 hP hD hS hl => ?_) 84 0 rfl 0 (fun _ => 0) rfl (fun j hj => by omega) H locs ls hP hD hS hl
  refine lv_aload_n hx hb dX7_init_152 rfl (lv_at hl 1 rfl) ?_
  refine va_get (D := D) (ci := 7) (v := .ref ar) (C := RX7) (T := TX7) (N := 9) hx hb hts iX7 hown hK hP 0 rfl rfl 1 (by decide) k_f19 (fun _ h9 => h9) rfl dX7_init_153 ?_
  refine lv_aload_n hx hb dX7_init_156 rfl (lv_at hl 1 rfl) ?_
  refine va_get (D := D) (ci := 7) (v := .ref ay) (C := RX7) (T := TX7) (N := 9) hx hb hts iX7 hown hK hP 0 rfl rfl 0 (by decide) k_f10 (fun _ h9 => h9) rfl dX7_init_157 ?_
  obtain ⟨rnum', rpsq', rppa', rppe', rpwo', rpkind', rpwsq', rpwhr', rmhour', rmworn', rmsquare', rmunder', hv, hc, hu, hF⟩ := first_read (fun _ => 0) (fun _ => 0) (fun _ => 0) (fun _ => 0) (fun _ => 0) (fun _ => 0) (fun _ => 0) (fun _ => 0) ylet1 h84
  rw [← hy84] at hF
  refine lVi (As := [.ref ay]) (rest := []) hC hP hD hS [2, 3, 4, 1] [0, 5, 6, 7, 8, 9, 10, 11, 12, 13] (by decide +kernel) (c_X3_placeOfFault l D cI cC cM ar arn arp arpk arpq arpr arm armh armw arms armu ay ayl (fun _ => 0) 0 0 0 0 (fun _ => 0) (fun _ => 0) (fun _ => 0) 0 0 0 0 (fun _ => 0) (fun _ => 0) (fun _ => 0) (fun _ => 0) y84 ylet1 (-4) rnum' rpsq' rppa' rppe' rpwo' rpkind' rpwsq' rpwhr' 0 0 0 0 rmhour' rmworn' rmsquare' rmunder' hF) [(bX ax ay ar ap aq aj az ak ae ad), (bT cC ay ayl y84 ylet1), (bRO ar arp arm arn), (bRN cI arn rnum'), (bRM cI arp rpsq' rppa' rppe' rpwo' arpk arpq arpr rpkind' rpwsq' rpwhr' arm 0 0 0 0 armh armw arms armu rmhour' rmworn' rmsquare' rmunder'), (bP cI ap 0 0 0 0 apk apq apr (fun _ => 0) (fun _ => 0) (fun _ => 0)), (bQ cI aq ap 0 0 0 0 aqh aqw aqs aqu (fun _ => 0) (fun _ => 0) (fun _ => 0) (fun _ => 0)), (bJ cI aj ap 0 0 0 0 ajh ajw ajs aju (fun _ => 0) (fun _ => 0) (fun _ => 0) (fun _ => 0)), (bZO az azr 0), (bZM cI cM azr za ap V00 zah zaw zaS zau), (bKO ak akr 0), (bKM cI cM akr ka ap V00 kah kaw kaS kau), (bE cI ae aeh aeb 0 (fun _ => 0) (fun _ => 0)), (bD cI ad adc adb adr 0 (fun _ => 0) (fun _ => 0) (fun _ => 0))] rfl rfl hr7_3_4 rfl (cwV 1 hts gX7_init_X3_placeOfFault rfl rfl rfl (by decide +kernel) ⟨Nat.le_of_ble_eq_true rfl, Nat.le_of_ble_eq_true rfl⟩) 0 3 rfl rfl rfl rfl hl.1 rfl (Nat.le_of_ble_eq_true rfl) dX7_init_160 ⟨Nat.le_of_ble_eq_true rfl, Nat.le_of_ble_eq_true rfl⟩ (fun H locs hP hD hS => ?_)
  refine lv_pop hx hb dX7_init_163 rfl ?_
  refine lv_aload_n hx hb dX7_init_164 rfl (lv_at hl 1 rfl) ?_
  refine lVv (As := []) (rest := []) hC hP hD hS [0, 2, 3, 4, 5, 6, 12, 8, 10] [1, 7, 9, 11, 13] (by decide +kernel) (c_X7_settle l D cI cC cM ax ar arn arp arpk arpq arpr arm armh armw arms armu ap apk apq apr aq aqh aqw aqs aqu ae aeh aeb az ak ay aj ad azr akr rnum' rpsq' rppa' rppe' rpwo' rpkind' rpwsq' rpwhr' 0 0 0 0 rmhour' rmworn' rmsquare' rmunder' 0 0 0 0 (fun _ => 0) (fun _ => 0) (fun _ => 0) 0 0 0 0 (fun _ => 0) (fun _ => 0) (fun _ => 0) (fun _ => 0) 0 (fun _ => 0) (fun _ => 0) 0 0 rpsq' rppa' rppe' rpwo' (cpy 6 rpkind' (fun _ => 0)) (cpy 6 rpwsq' (fun _ => 0)) (cpy 6 rpwhr' (fun _ => 0)) 0 0 0 0 (cpy 6 rmhour' (fun _ => 0)) (cpy 6 rmworn' (fun _ => 0)) (cpy 5 rmsquare' (fun _ => 0)) (cpy 5 rmunder' (fun _ => 0)) 0 0 0 (settle_c rpsq' rppa' rppe' rpwo' 0 0 0 0 rpkind' rpwsq' rpwhr' rmhour' rmworn' rmsquare' rmunder' (fun _ => 0) (fun _ => 0) (fun _ => 0) (fun _ => 0) (fun _ => 0) (fun _ => 0) (fun _ => 0))) [(bX ax ay ar ap aq aj az ak ae ad), (bT cC ay ayl y84 ylet1), (bRO ar arp arm arn), (bRN cI arn rnum'), (bRM cI arp rpsq' rppa' rppe' rpwo' arpk arpq arpr rpkind' rpwsq' rpwhr' arm 0 0 0 0 armh armw arms armu rmhour' rmworn' rmsquare' rmunder'), (bP cI ap rpsq' rppa' rppe' rpwo' apk apq apr (cpy 6 rpkind' (fun _ => 0)) (cpy 6 rpwsq' (fun _ => 0)) (cpy 6 rpwhr' (fun _ => 0))), (bQ cI aq ap 0 0 0 0 aqh aqw aqs aqu (cpy 6 rmhour' (fun _ => 0)) (cpy 6 rmworn' (fun _ => 0)) (cpy 5 rmsquare' (fun _ => 0)) (cpy 5 rmunder' (fun _ => 0))), (bJ cI aj ap 0 0 0 0 ajh ajw ajs aju (fun _ => 0) (fun _ => 0) (fun _ => 0) (fun _ => 0)), (bZO az azr 0), (bZM cI cM azr za ap V00 zah zaw zaS zau), (bKO ak akr 0), (bKM cI cM akr ka ap V00 kah kaw kaS kau), (bE cI ae aeh aeb 0 (fun _ => 0) (fun _ => 0)), (bD cI ad adc adb adr 0 (fun _ => 0) (fun _ => 0) (fun _ => 0))] rfl rfl hr7_5_6 rfl (cwV 0 hts gX7_init_X7_settle rfl rfl rfl (by decide +kernel) ⟨Nat.le_of_ble_eq_true rfl, Nat.le_of_ble_eq_true rfl⟩) 0 7 rfl rfl rfl rfl hl.1 rfl (Nat.le_of_ble_eq_true rfl) dX7_init_165 ⟨Nat.le_of_ble_eq_true rfl, Nat.le_of_ble_eq_true rfl⟩ (fun H locs hP hD hS => ?_)
  refine lv_aload_n hx hb dX7_init_168 rfl (lv_at hl 1 rfl) ?_
  refine va_get (D := D) (ci := 7) (v := .ref ay) (C := RX7) (T := TX7) (N := 9) hx hb hts iX7 hown hK hP 0 rfl rfl 0 (by decide) k_f10 (fun _ h9 => h9) rfl dX7_init_169 ?_
  refine lVv (As := []) (rest := []) hC hP hD hS [1] [0, 2, 3, 4, 5, 6, 7, 8, 9, 10, 11, 12, 13] (by decide +kernel) (c_X6_clear l D cI cC cM ay ayl y84 ylet1 0 rfl) [(bX ax ay ar ap aq aj az ak ae ad), (bT cC ay ayl 0 ylet1), (bRO ar arp arm arn), (bRN cI arn rnum'), (bRM cI arp rpsq' rppa' rppe' rpwo' arpk arpq arpr rpkind' rpwsq' rpwhr' arm 0 0 0 0 armh armw arms armu rmhour' rmworn' rmsquare' rmunder'), (bP cI ap rpsq' rppa' rppe' rpwo' apk apq apr (cpy 6 rpkind' (fun _ => 0)) (cpy 6 rpwsq' (fun _ => 0)) (cpy 6 rpwhr' (fun _ => 0))), (bQ cI aq ap 0 0 0 0 aqh aqw aqs aqu (cpy 6 rmhour' (fun _ => 0)) (cpy 6 rmworn' (fun _ => 0)) (cpy 5 rmsquare' (fun _ => 0)) (cpy 5 rmunder' (fun _ => 0))), (bJ cI aj ap 0 0 0 0 ajh ajw ajs aju (fun _ => 0) (fun _ => 0) (fun _ => 0) (fun _ => 0)), (bZO az azr 0), (bZM cI cM azr za ap V00 zah zaw zaS zau), (bKO ak akr 0), (bKM cI cM akr ka ap V00 kah kaw kaS kau), (bE cI ae aeh aeb 0 (fun _ => 0) (fun _ => 0)), (bD cI ad adc adb adr 0 (fun _ => 0) (fun _ => 0) (fun _ => 0))] rfl rfl hr7_1 rfl (cwV 0 hts gX7_init_X6_clear rfl rfl rfl (by decide +kernel) ⟨Nat.le_of_ble_eq_true rfl, Nat.le_of_ble_eq_true rfl⟩) 0 6 rfl rfl rfl rfl hl.1 rfl (Nat.le_of_ble_eq_true rfl) dX7_init_172 ⟨Nat.le_of_ble_eq_true rfl, Nat.le_of_ble_eq_true rfl⟩ (fun H locs hP hD hS => ?_)
  rw [← hQ]
  exact xrn hC ⟨ay, ar, ap, aq, aj, az, ak, ae, ad, ayl, arp, arm, arn, arpk, arpq, arpr, armh, armw, arms, armu, apk, apq, apr, aqh, aqw, aqs, aqu, ajh, ajw, ajs, aju, azr, akr, aeh, aeb, adc, adb, adr, za, zah, zaw, zaS, zau, ka, kah, kaw, kaS, kau, rpsq', rppa', rppe', rpwo', ylet1, rnum', rpkind', rpwsq', rpwhr', rmhour', rmworn', rmsquare', rmunder', (cpy 6 rpkind' (fun _ => 0)), (cpy 6 rpwsq' (fun _ => 0)), (cpy 6 rpwhr' (fun _ => 0)), (cpy 6 rmhour' (fun _ => 0)), (cpy 6 rmworn' (fun _ => 0)), (cpy 5 rmsquare' (fun _ => 0)), (cpy 5 rmunder' (fun _ => 0)), rfl, first_IP hv hc _ _ _, first_IM hv hc hu _ _ _ _⟩ hP hD hS dX7_init_175
