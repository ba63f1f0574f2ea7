-- the string of the first text
def txB : List Int32 := [113, 54, 59, 117, 48, 44, 49, 48, 44, 50, 59, 117, 49, 44, 49, 56, 44, 48, 59, 117, 50, 44, 55, 44, 52, 59, 117, 51, 44, 49, 52, 44, 49, 59, 117, 48, 44, 49, 49, 44, 56, 59, 112, 48, 59, 112, 48, 59, 112, 50, 59, 112, 48, 59, 119, 49, 44, 49, 51, 59, 119, 50, 44, 49, 57, 59, 119, 51, 44, 49, 48, 59, 119, 53, 44, 49, 53, 59, 119, 48, 44, 49, 50, 59]
def txN : Nat → Nat := fun i => [113, 54, 59, 117, 48, 44, 49, 48, 44, 50, 59, 117, 49, 44, 49, 56, 44, 48, 59, 117, 50, 44, 55, 44, 52, 59, 117, 51, 44, 49, 52, 44, 49, 59, 117, 48, 44, 49, 49, 44, 56, 59, 112, 48, 59, 112, 48, 59, 112, 50, 59, 112, 48, 59, 119, 49, 44, 49, 51, 59, 119, 50, 44, 49, 57, 59, 119, 51, 44, 49, 48, 59, 119, 53, 44, 49, 53, 59, 119, 48, 44, 49, 50, 59].getD i 0
theorem txB_ok : ∀ k, k < 84 → ((txB.getD k 0 &&& 255).toUInt32 % 65536).toInt32 = txB.getD k 0 ∧ okc (txB.getD k 0) = true ∧ txB.getD k 0 = nI (txN k) ∧ 32 ≤ txN k ∧ txN k ≤ 126 := by decide +kernel
def SX (tx tv : Nat) (A : Nat → Prop) (U : State) (H : Heap) : Prop := va_O "java/lang/String" tx A U H ∧ va_OF "java/lang/String" "coder" "B" (.int 0) tx A U H ∧ va_OF "java/lang/String" "value" "[B" (.ref tv) tx A U H ∧ va_T .byte tv 84 (fun j => .int (txB.getD j 0)) A U H ∧ va_Z "java/lang/String" "COMPACT_STRINGS" "Z" (.int 1) A U H ∧ va_Zq "jdk/internal/util/Preconditions" "SIOOBE_FORMATTER" "Ljava/util/function/BiFunction;" A U H
theorem SX.moved {tx tv : Nat} {A : Nat → Prop} {u U : State} {H : Heap} (hvm : u.vm.Alike U.vm) (h : SX tx tv A u H) : SX tx tv A U H := ⟨va_O.moved hvm h.1, va_OF.moved hvm h.2.1, va_OF.moved hvm h.2.2.1, va_T.moved hvm h.2.2.2.1, va_Z.moved hvm h.2.2.2.2.1, va_Zq.moved hvm h.2.2.2.2.2⟩
theorem SX.kept {tx tv : Nat} {A : Nat → Prop} {U : State} {H H1 : Heap} (h : SX tx tv A U H) (hq : ∀ a : Nat, a < H.size → ¬ A a → H1[a]? = H[a]?) : SX tx tv A U H1 := ⟨h.1.kept hq, h.2.1.kept hq, h.2.2.1.kept hq, h.2.2.2.1.kept hq, h.2.2.2.2.1.kept hq, h.2.2.2.2.2.kept hq⟩
theorem SX.narrow {tx tv : Nat} {A B : Nat → Prop} {U : State} {H : Heap} (h : SX tx tv A U H) (hAB : ∀ q, B q → A q) : SX tx tv B U H := ⟨h.1.narrow hAB, h.2.1.narrow hAB, h.2.2.1.narrow hAB, h.2.2.2.1.narrow hAB, h.2.2.2.2.1.narrow hAB, h.2.2.2.2.2.narrow hAB⟩
theorem old_in {H : Heap} {a : Nat} {cell : Cell} (h : H[a]? = some cell) : ¬ va_A [] H.size a := by
  intro hA
  rcases hA with ⟨k, e, h1⟩ | h1
  · simp at h1
  · have := (Array.getElem?_eq_some_iff.mp h).1
    omega
theorem SX.own {tx tv : Nat} {A : Nat → Prop} {U : State} {H : Heap} (h : SX tx tv A U H) : SX tx tv (va_A [] H.size) U H := by
  obtain ⟨⟨c1, a1, a2, a3, -⟩, ⟨b1, b2, b3, b4, b5, b6, b7, b8, b9, b10, -⟩, ⟨d1, d2, d3, d4, d5, d6, d7, d8, d9, d10, -⟩, ⟨e1, e2, e3, e4, e5, e6, e7, -⟩, ⟨f1, f2, f3, f4, f5, f6, f7, f8, f9, f10, f11, f12, f13, -⟩, g⟩ := h
  refine ⟨⟨c1, a1, a2, a3, old_in a1⟩, ⟨b1, b2, b3, b4, b5, b6, b7, b8, b9, b10, old_in b8⟩, ⟨d1, d2, d3, d4, d5, d6, d7, d8, d9, d10, old_in d8⟩, ⟨e1, e2, e3, e4, e5, e6, e7, old_in e2⟩, ⟨f1, f2, f3, f4, f5, f6, f7, f8, f9, f10, f11, f12, f13, old_in f11⟩, ?_⟩
  rcases g with ⟨f1, f2, f3, f4, f5, f6, f7, f8, f9, f10, f11, f12, f13, -⟩ | ⟨t, f1, f2, f3, f4, f5, f6, f7, f8, f9, f10, f11, f12, f13, -⟩
  · exact Or.inl ⟨f1, f2, f3, f4, f5, f6, f7, f8, f9, f10, f11, f12, f13, old_in f11⟩
  · exact Or.inr ⟨t, f1, f2, f3, f4, f5, f6, f7, f8, f9, f10, f11, f12, f13, old_in f11⟩
def PSx (D : va_G) (cI cC cM : ClassId) (tx tv sz : Nat) : State → Prop := fun U => U.heap.size = sz ∧ SX tx tv (va_A [] sz) U U.heap ∧ GK D cI cC cM U
theorem PSx.blind {D : va_G} {cI cC cM : ClassId} {tx tv sz : Nat} {av : List Value} : FrameBlind (va_Pc av (PSx D cI cC cM tx tv sz)) := fun a U g mk q => by
  obtain ⟨q0, q1, qS, qK⟩ := q
  exact ⟨q0, q1, SX.moved (u := U) (U := U.calling g mk a) (Vm.Alike.refl U.vm) qS, qK.calling g mk a⟩
def CX (l : Launch) (D : va_G) (cI cC cM : ClassId) (tx tv : Nat) (y : MethodName) (wy : List Cond) (rm : Room) (av : List Value) (r : Int32) : Prop := ∀ sz : Nat, Met l y wy rm (va_Pc av (PSx D cI cC cM tx tv sz)) (QI D [] r (va_A [] sz)) 0 0 (va_A [] sz)
def CXv (l : Launch) (D : va_G) (cI cC cM : ClassId) (tx tv : Nat) (y : MethodName) (wy : List Cond) (rm : Room) (av : List Value) : Prop := ∀ sz : Nat, Met l y wy rm (va_Pc av (PSx D cI cC cM tx tv sz)) (QV D [] (va_A [] sz)) 0 0 (va_A [] sz)
theorem P0 {D : va_G} {H : Heap} : va_P D vwCl [] H := fun k q h => by simp at h
theorem D0 {A : Nat → Prop} : va_D A [] := ⟨fun i j p q h => by simp at h, fun k q h => by simp at h⟩
section SXC
variable {l : Launch} {D : va_G} {cI cC cM : ClassId} {y : MethodName} {wy wy' : List Cond} {rm : Room} {av : List Value} {cc : ByteArray} {nL tx tv : Nat} {ret : Option FieldType}
theorem bodyX {Qc : (Nat → Prop) → Array Value → State → Outcome → State → Prop} {sz : Nat} (hy : plainName y.cls = true) (hw : wy = Cond.code y cc nL ret :: wy') (hlen : (lg_sl av).length ≤ nL)
    (body : ∀ p e s m args below meth c A, Ctx p s m args meth c D cI cC cM A y.cls cc nL ret wy → SX tx tv A s s.heap → va_S A s.heap s.heap [] → ∀ ls, lv_has ls nL (lv_args 0 av) → W p l e rm s m args below meth c s.heap [] 0 0 (MQ below (Qc A) args s 0 0 A) (F0 m 0 ls [])) :
    Met l y wy rm (va_Pc av (PSx D cI cC cM tx tv sz)) (Qc (va_A [] sz)) 0 0 (va_A [] sz) := by
  refine Met.ofW (cc := cc) (maxL := nL) (ret := ret) hy hw ?_
  intro p e s m args below meth c s₁ B hml hv
  obtain ⟨rfl, hsz, hX, hK⟩ := hv
  subst hsz
  have hl := lv_entry av (n := nL) hlen
  rw [lg_entry_eq]
  exact body p e s m _ below meth c (va_A [] s.heap.size) ⟨B.exec, B.bytes, hml, findClass_of_methodNamed B.named, atoms_spec (ws := wy) B.pre, B.returns, B.notSynchronized, hK, fun q h => Or.inr h⟩ hX va_S.rf _ hl
theorem CX.of {r : Int32} (hy : plainName y.cls = true) (hw : wy = Cond.code y cc nL ret :: wy') (hlen : (lg_sl av).length ≤ nL)
    (body : ∀ p e s m args below meth c A, Ctx p s m args meth c D cI cC cM A y.cls cc nL ret wy → SX tx tv A s s.heap → va_S A s.heap s.heap [] → ∀ ls, lv_has ls nL (lv_args 0 av) → W p l e rm s m args below meth c s.heap [] 0 0 (MQ below (QI D [] r A) args s 0 0 A) (F0 m 0 ls [])) : CX l D cI cC cM tx tv y wy rm av r := fun sz => bodyX (Qc := QI D [] r) (sz := sz) hy hw hlen body
theorem CXv.of (hy : plainName y.cls = true) (hw : wy = Cond.code y cc nL ret :: wy') (hlen : (lg_sl av).length ≤ nL)
    (body : ∀ p e s m args below meth c A, Ctx p s m args meth c D cI cC cM A y.cls cc nL ret wy → SX tx tv A s s.heap → va_S A s.heap s.heap [] → ∀ ls, lv_has ls nL (lv_args 0 av) → W p l e rm s m args below meth c s.heap [] 0 0 (MQ below (QV D [] A) args s 0 0 A) (F0 m 0 ls [])) : CXv l D cI cC cM tx tv y wy rm av := fun sz => bodyX (Qc := QV D []) (sz := sz) hy hw hlen body
end SXC
section SXR
variable {p : Program} {l : Launch} {e : Env} {R : Room} {s : State} {m : MethodId} {args : Array Value} {below : List Frame} {meth : Method} {c : Code} {H : Heap} {locs : List Loc} {cells slots : Nat} {Q : State → Prop}
variable {D : va_G} {cI cC cM : ClassId} {A : Nat → Prop} {own : String} {cc bytes : ByteArray} {nL maxL n index tx tv : Nat} {mret ret : Option FieldType} {Ts : List Cond} {y : MethodName} {wy : List Cond} {rm : Room} {ws : va_W} {pc : Nat} {As rest st : List Value} {ls : Array Slot} {r : Int32}
theorem sx_in (hG : GK D cI cC cM s) (hX : SX tx tv A s s.heap) (hS : va_S A s.heap H locs) (av : List Value) : ∀ U : State, U.heap = H → s.WarmedH U.vm → va_Pc av (PSx D cI cC cM tx tv H.size) av.toArray U := fun U hU hW => ⟨rfl, by rw [hU], by rw [hU]; exact (SX.moved hW.alike (hX.kept hS.2.1)).own, hG.warm hW⟩
theorem sVi (hC : Ctx p s m args meth c D cI cC cM A own cc nL mret Ts) (hX : SX tx tv A s s.heap) (hP : va_P D vwCl ws H) (hD : va_D A ws) (hS : va_S A s.heap H locs) (hM : CX l D cI cC cM tx tv y wy rm (.ref tx :: As) r) (cw : CallW R s args own "java/lang/String" index y bytes maxL ret wy rm 0 0 n) (hn : As.length = n) (hsize : ls.size = nL) (hst : st = As.reverse ++ .ref tx :: rest) (hW : (rest.map fun v => v.category).sum ≤ 8) (hdg : decode cc pc = .ok (.invokevirtual index, 3)) (hf : cells ≤ R.cells ∧ slots ≤ R.slots)
    (kk : ∀ (H1 : Heap) (locs1 : List Loc), va_P D vwCl ws H1 → va_D A ws → va_S A s.heap H1 locs1 → W p l e R s m args below meth c H1 locs1 cells slots Q (F0 m (pc + 3) ls (.int r :: rest))) : W p l e R s m args below meth c H locs cells slots Q (F0 m pc ls st) := by
  obtain ⟨cell, h1, h2, h3, -⟩ := hX.1.kept hS.2.1
  exact after_i (wc := []) (va_runV hC.fix (hM H.size) cw ⟨PSx.blind, ⟨cell, h1, h2, h3⟩, sx_in hC.gk hX hS _⟩ rfl hn hsize hst (lv_room hW) hdg hf) hP hD hS hC.hA [] rfl rfl (fun H1 locs1 g1 g2 g3 => kk H1 locs1 g1 g2 g3)
theorem sSi (hC : Ctx p s m args meth c D cI cC cM A own cc nL mret Ts) (hX : SX tx tv A s s.heap) (hP : va_P D vwCl ws H) (hD : va_D A ws) (hS : va_S A s.heap H locs) (hM : CX l D cI cC cM tx tv y wy rm As r) (cw : CallB R s args own index y bytes maxL ret wy rm 0 0 n ∧ (Cond.static y).before args s = true) (hn : As.length = n) (hsize : ls.size = nL) (hst : st = As.reverse ++ rest) (hW : (rest.map fun v => v.category).sum ≤ 8) (hdg : decode cc pc = .ok (.invokestatic index, 3)) (hf : cells ≤ R.cells ∧ slots ≤ R.slots)
    (kk : ∀ (H1 : Heap) (locs1 : List Loc), va_P D vwCl ws H1 → va_D A ws → va_S A s.heap H1 locs1 → W p l e R s m args below meth c H1 locs1 cells slots Q (F0 m (pc + 3) ls (.int r :: rest))) : W p l e R s m args below meth c H locs cells slots Q (F0 m pc ls st) :=
  after_i (wc := []) (va_runS hC.fix (hM H.size) cw ⟨PSx.blind, sx_in hC.gk hX hS _⟩ rfl hn hsize hst (lv_room hW) hdg hf) hP hD hS hC.hA [] rfl rfl (fun H1 locs1 g1 g2 g3 => kk H1 locs1 g1 g2 g3)
theorem sSv (hC : Ctx p s m args meth c D cI cC cM A own cc nL mret Ts) (hX : SX tx tv A s s.heap) (hP : va_P D vwCl ws H) (hD : va_D A ws) (hS : va_S A s.heap H locs) (hM : CXv l D cI cC cM tx tv y wy rm As) (cw : CallB R s args own index y bytes maxL ret wy rm 0 0 n ∧ (Cond.static y).before args s = true) (hn : As.length = n) (hsize : ls.size = nL) (hst : st = As.reverse ++ rest) (hW : (rest.map fun v => v.category).sum ≤ 8) (hdg : decode cc pc = .ok (.invokestatic index, 3)) (hf : cells ≤ R.cells ∧ slots ≤ R.slots)
    (kk : ∀ (H1 : Heap) (locs1 : List Loc), va_P D vwCl ws H1 → va_D A ws → va_S A s.heap H1 locs1 → W p l e R s m args below meth c H1 locs1 cells slots Q (F0 m (pc + 3) ls rest)) : W p l e R s m args below meth c H locs cells slots Q (F0 m pc ls st) :=
  after_v (wc := []) (va_runS hC.fix (hM H.size) cw ⟨PSx.blind, sx_in hC.gk hX hS _⟩ rfl hn hsize hst (lv_room hW) hdg hf) hP hD hS hC.hA [] rfl rfl (fun H1 locs1 g1 g2 g3 => kk H1 locs1 g1 g2 g3)
end SXR
def rm_J0_coder : Room := { frames := 0, cells := 0, slots := 0, locals := 0 }
set_option maxHeartbeats 4000000 in
set_option maxRecDepth 100000 in
theorem c_J0_coder (l : Launch) (D : va_G) (cI cC cM : ClassId) (tx tv : Nat) : CX l D cI cC cM tx tv yJ0_coder_7d493 wsJ0_coder_7d493 rm_J0_coder [.ref tx] 0 := by
  refine CX.of (cc := cJ0_coder_7d493) (nL := 1) (ret := (some .byte)) (by decide) rfl (Nat.le_of_ble_eq_true rfl) ?_
  intro p e s m args below meth c A hC hX hS ls hl
  obtain ⟨hx, hb, hml, hown, hts, hr, hlk, hG, hA⟩ := id hC
  have hown : s.vm.findClass RJ0 = some m.cls := hown
  have hl : lv_has ls 1 [(0, .ref tx)] := hl
  have k38 := hts (.fieldLink RJ0 38 "java/lang/String" "COMPACT_STRINGS" "Z") (List.mem_of_getElem? (i := 1) rfl)
  have k15 := hts (.fieldLink RJ0 15 "java/lang/String" "coder" "B") (List.mem_of_getElem? (i := 2) rfl)
  obtain ⟨Q, hQ⟩ : ∃ Q, Q = MQ below (QI D [] 0 A) args s 0 0 A := ⟨_, rfl⟩
  rw [← hQ]
  refine va_gets (C := "java/lang/String") (n := "COMPACT_STRINGS") (d := "Z") (v := .int 1) hx hb hX.2.2.2.2.1 hS hown k38 (fun _ h => h) dJ0_coder_7d493_0 ?_
  refine lv_if_eq (tgt := 13) hx hb dJ0_coder_7d493_3 (by decide) (fun c1 => absurd c1 (by decide)) (fun _ => ?_)
  refine lv_aload_n hx hb dJ0_coder_7d493_6 rfl (lv_at hl 0 rfl) ?_
  refine vk_getf (o := "java/lang/String") (n := "coder") (d := "B") (v := .int 0) hx hb hX.2.1 hS hown k15 (fun _ h => h) dJ0_coder_7d493_7 ?_
  refine lv_goto (tgt := 14) hx hb dJ0_coder_7d493_10 (by decide) ?_
  rw [hQ]
  exact xrz hC rfl P0 hS dJ0_coder_7d493_14
def rm_J0_isLatin1 : Room := { frames := 0, cells := 0, slots := 0, locals := 0 }
set_option maxHeartbeats 4000000 in
set_option maxRecDepth 100000 in
theorem c_J0_isLatin1 (l : Launch) (D : va_G) (cI cC cM : ClassId) (tx tv : Nat) : CX l D cI cC cM tx tv yJ0_isLatin1_aae02 wsJ0_isLatin1_aae02 rm_J0_isLatin1 [.ref tx] 1 := by
  refine CX.of (cc := cJ0_isLatin1_aae02) (nL := 1) (ret := (some .boolean)) (by decide) rfl (Nat.le_of_ble_eq_true rfl) ?_
  intro p e s m args below meth c A hC hX hS ls hl
  obtain ⟨hx, hb, hml, hown, hts, hr, hlk, hG, hA⟩ := id hC
  have hown : s.vm.findClass RJ0 = some m.cls := hown
  have hl : lv_has ls 1 [(0, .ref tx)] := hl
  have k38 := hts (.fieldLink RJ0 38 "java/lang/String" "COMPACT_STRINGS" "Z") (List.mem_of_getElem? (i := 1) rfl)
  have k15 := hts (.fieldLink RJ0 15 "java/lang/String" "coder" "B") (List.mem_of_getElem? (i := 2) rfl)
  obtain ⟨Q, hQ⟩ : ∃ Q, Q = MQ below (QI D [] 1 A) args s 0 0 A := ⟨_, rfl⟩
  rw [← hQ]
  refine va_gets (C := "java/lang/String") (n := "COMPACT_STRINGS") (d := "Z") (v := .int 1) hx hb hX.2.2.2.2.1 hS hown k38 (fun _ h => h) dJ0_isLatin1_aae02_0 ?_
  refine lv_if_eq (tgt := 17) hx hb dJ0_isLatin1_aae02_3 (by decide) (fun c1 => absurd c1 (by decide)) (fun _ => ?_)
  refine lv_aload_n hx hb dJ0_isLatin1_aae02_6 rfl (lv_at hl 0 rfl) ?_
  refine vk_getf (o := "java/lang/String") (n := "coder") (d := "B") (v := .int 0) hx hb hX.2.1 hS hown k15 (fun _ h => h) dJ0_isLatin1_aae02_7 ?_
  refine lv_if_ne (tgt := 17) hx hb dJ0_isLatin1_aae02_10 (by decide) (fun c1 => absurd rfl c1) (fun _ => ?_)
  refine lv_iconst (v := (1 : Int32)) hx hb dJ0_isLatin1_aae02_13 (by decide) ?_
  refine lv_goto (tgt := 18) hx hb dJ0_isLatin1_aae02_14 (by decide) ?_
  rw [hQ]
  exact xrz hC rfl P0 hS dJ0_isLatin1_aae02_18
def rm_J0_length : Room := { frames := 1, cells := 0, slots := 0, locals := 20 }
set_option maxHeartbeats 4000000 in
set_option maxRecDepth 100000 in
theorem c_J0_length (l : Launch) (D : va_G) (cI cC cM : ClassId) (tx tv : Nat) : CX l D cI cC cM tx tv yJ0_length_8abf5 wsJ0_length_8abf5 rm_J0_length [.ref tx] 84 := by
  refine CX.of (cc := cJ0_length_8abf5) (nL := 1) (ret := (some .int)) (by decide) rfl (Nat.le_of_ble_eq_true rfl) ?_
  intro p e s m args below meth c A hC hX hS ls hl
  obtain ⟨hx, hb, hml, hown, hts, hr, hlk, hG, hA⟩ := id hC
  have hown : s.vm.findClass RJ0 = some m.cls := hown
  have hl : lv_has ls 1 [(0, .ref tx)] := hl
  have k9 := hts (.fieldLink RJ0 9 "java/lang/String" "value" "[B") (List.mem_of_getElem? (i := 1) rfl)
  obtain ⟨Q, hQ⟩ : ∃ Q, Q = MQ below (QI D [] 84 A) args s 0 0 A := ⟨_, rfl⟩
  rw [← hQ]
  refine lv_aload_n hx hb dJ0_length_8abf5_0 rfl (lv_at hl 0 rfl) ?_
  refine vk_getf (o := "java/lang/String") (n := "value") (d := "[B") (v := .ref tv) hx hb hX.2.2.1 hS hown k9 (fun _ h => h) dJ0_length_8abf5_1 ?_
  refine va_tlen hx hb hX.2.2.2.1 hS (v := (84 : Int32)) (by decide) dJ0_length_8abf5_4 ?_
  refine lv_aload_n hx hb dJ0_length_8abf5_5 rfl (lv_at hl 0 rfl) ?_
  refine sVi (As := []) (rest := [.int 84]) hC hX P0 D0 hS (c_J0_coder l D cI cC cM tx tv) (cwV 0 hts gJ0_length_8abf5_J0_coder_7d493 rfl rfl rfl (by decide +kernel) ⟨Nat.le_of_ble_eq_true rfl, Nat.le_of_ble_eq_true rfl⟩) rfl hl.1 rfl (Nat.le_of_ble_eq_true rfl) dJ0_length_8abf5_6 ⟨Nat.zero_le _, Nat.zero_le _⟩ (fun H locs hP hD hS => ?_)
  refine lv_ishr hx hb dJ0_length_8abf5_9 ?_
  have e84 : (84 : Int32) >>> ((0 : Int32) &&& 31) = 84 := by decide
  try rw [e84]
  rw [hQ]
  exact xri hC hP hS dJ0_length_8abf5_10
def rm_J3_checkIndex : Room := { frames := 0, cells := 0, slots := 0, locals := 0 }
set_option maxHeartbeats 4000000 in
set_option maxRecDepth 100000 in
theorem c_J3_checkIndex (l : Launch) (D : va_G) (cI cC cM : ClassId) (tx tv : Nat) (i nn : Int32) (v : Value) (hv : v = .null ∨ ∃ t, v = .ref t) (h0 : ¬ i < 0) (h1 : i < nn) : CX l D cI cC cM tx tv yJ3_checkIndex_8e157 wsJ3_checkIndex_8e157 rm_J3_checkIndex [.int i, .int nn, v] i := by
  rcases hv with rfl | ⟨t, rfl⟩
  · refine CX.of (cc := cJ3_checkIndex_8e157) (nL := 3) (ret := (some .int)) (by decide) rfl (Nat.le_of_ble_eq_true rfl) ?_
    intro p e s m args below meth c A hC hX hS ls hl
    obtain ⟨hx, hb, hml, hown, hts, hr, hlk, hG, hA⟩ := id hC
    have hl : lv_has ls 3 [(0, .int i), (1, .int nn), (2, .null)] := hl
    obtain ⟨Q, hQ⟩ : ∃ Q, Q = MQ below (QI D [] i A) args s 0 0 A := ⟨_, rfl⟩
    rw [← hQ]
    refine lv_iload_n hx hb dJ3_checkIndex_8e157_0 rfl (lv_at hl 0 rfl) ?_
    refine lv_if_lt (tgt := 9) hx hb dJ3_checkIndex_8e157_1 (by decide) (fun c1 => absurd c1 h0) (fun _ => ?_)
    refine lv_iload_n hx hb dJ3_checkIndex_8e157_4 rfl (lv_at hl 0 rfl) ?_
    refine lv_iload_n hx hb dJ3_checkIndex_8e157_5 rfl (lv_at hl 1 rfl) ?_
    refine lv_icmp_lt (tgt := 16) hx hb dJ3_checkIndex_8e157_6 (by decide) (fun _ => ?_) (fun c1 => absurd h1 c1)
    refine lv_iload_n hx hb dJ3_checkIndex_8e157_16 rfl (lv_at hl 0 rfl) ?_
    rw [hQ]
    exact xri hC P0 hS dJ3_checkIndex_8e157_17
  · refine CX.of (cc := cJ3_checkIndex_8e157) (nL := 3) (ret := (some .int)) (by decide) rfl (Nat.le_of_ble_eq_true rfl) ?_
    intro p e s m args below meth c A hC hX hS ls hl
    obtain ⟨hx, hb, hml, hown, hts, hr, hlk, hG, hA⟩ := id hC
    have hl : lv_has ls 3 [(0, .int i), (1, .int nn), (2, .ref t)] := hl
    obtain ⟨Q, hQ⟩ : ∃ Q, Q = MQ below (QI D [] i A) args s 0 0 A := ⟨_, rfl⟩
    rw [← hQ]
    refine lv_iload_n hx hb dJ3_checkIndex_8e157_0 rfl (lv_at hl 0 rfl) ?_
    refine lv_if_lt (tgt := 9) hx hb dJ3_checkIndex_8e157_1 (by decide) (fun c1 => absurd c1 h0) (fun _ => ?_)
    refine lv_iload_n hx hb dJ3_checkIndex_8e157_4 rfl (lv_at hl 0 rfl) ?_
    refine lv_iload_n hx hb dJ3_checkIndex_8e157_5 rfl (lv_at hl 1 rfl) ?_
    refine lv_icmp_lt (tgt := 16) hx hb dJ3_checkIndex_8e157_6 (by decide) (fun _ => ?_) (fun c1 => absurd h1 c1)
    refine lv_iload_n hx hb dJ3_checkIndex_8e157_16 rfl (lv_at hl 0 rfl) ?_
    rw [hQ]
    exact xri hC P0 hS dJ3_checkIndex_8e157_17
def rm_J0_checkIndex : Room := { frames := 1, cells := 0, slots := 0, locals := 22 }
set_option maxHeartbeats 4000000 in
set_option maxRecDepth 100000 in
theorem c_J0_checkIndex (l : Launch) (D : va_G) (cI cC cM : ClassId) (tx tv : Nat) (i nn : Int32) (h0 : ¬ i < 0) (h1 : i < nn) : CXv l D cI cC cM tx tv yJ0_checkIndex_df160 wsJ0_checkIndex_df160 rm_J0_checkIndex [.int i, .int nn] := by
  refine CXv.of (cc := cJ0_checkIndex_df160) (nL := 2) (ret := none) (by decide) rfl (Nat.le_of_ble_eq_true rfl) ?_
  intro p e s m args below meth c A hC hX hS ls hl
  obtain ⟨hx, hb, hml, hown, hts, hr, hlk, hG, hA⟩ := id hC
  have hown : s.vm.findClass RJ0 = some m.cls := hown
  have hl : lv_has ls 2 [(0, .int i), (1, .int nn)] := hl
  have k1053 := hts (.fieldLink RJ0 1053 "jdk/internal/util/Preconditions" "SIOOBE_FORMATTER" "Ljava/util/function/BiFunction;") (List.mem_of_getElem? (i := 1) rfl)
  obtain ⟨Q, hQ⟩ : ∃ Q, Q = MQ below (QV D [] A) args s 0 0 A := ⟨_, rfl⟩
  rw [← hQ]
  refine lv_iload_n hx hb dJ0_checkIndex_df160_0 rfl (lv_at hl 0 rfl) ?_
  refine lv_iload_n hx hb dJ0_checkIndex_df160_1 rfl (lv_at hl 1 rfl) ?_
  rcases id hX.2.2.2.2.2 with hz | ⟨t, hz⟩
  · refine va_gets (C := "jdk/internal/util/Preconditions") (n := "SIOOBE_FORMATTER") (d := "Ljava/util/function/BiFunction;") (v := .null) hx hb hz hS hown k1053 (fun _ h => h) dJ0_checkIndex_df160_2 ?_
    refine sSi (As := [.int i, .int nn, .null]) (rest := []) hC hX P0 D0 hS (c_J3_checkIndex l D cI cC cM tx tv i nn (.null) (Or.inl rfl) h0 h1) (va_cwS 3 hts gJ0_checkIndex_df160_J3_checkIndex_8e157 rfl rfl rfl (by decide +kernel) ⟨Nat.le_of_ble_eq_true rfl, Nat.le_of_ble_eq_true rfl⟩) rfl hl.1 rfl (Nat.le_of_ble_eq_true rfl) dJ0_checkIndex_df160_5 ⟨Nat.zero_le _, Nat.zero_le _⟩ (fun H locs hP hD hS => ?_)
    refine lv_pop hx hb dJ0_checkIndex_df160_8 rfl ?_
    rw [hQ]
    exact xrv hC hP hS dJ0_checkIndex_df160_9
  · refine va_gets (C := "jdk/internal/util/Preconditions") (n := "SIOOBE_FORMATTER") (d := "Ljava/util/function/BiFunction;") (v := .ref t) hx hb hz hS hown k1053 (fun _ h => h) dJ0_checkIndex_df160_2 ?_
    refine sSi (As := [.int i, .int nn, .ref t]) (rest := []) hC hX P0 D0 hS (c_J3_checkIndex l D cI cC cM tx tv i nn (.ref t) (Or.inr ⟨t, rfl⟩) h0 h1) (va_cwS 3 hts gJ0_checkIndex_df160_J3_checkIndex_8e157 rfl rfl rfl (by decide +kernel) ⟨Nat.le_of_ble_eq_true rfl, Nat.le_of_ble_eq_true rfl⟩) rfl hl.1 rfl (Nat.le_of_ble_eq_true rfl) dJ0_checkIndex_df160_5 ⟨Nat.zero_le _, Nat.zero_le _⟩ (fun H locs hP hD hS => ?_)
    refine lv_pop hx hb dJ0_checkIndex_df160_8 rfl ?_
    rw [hQ]
    exact xrv hC hP hS dJ0_checkIndex_df160_9
def rm_J1_charAt : Room := { frames := 2, cells := 0, slots := 0, locals := 43 }
set_option maxHeartbeats 4000000 in
set_option maxRecDepth 100000 in
theorem c_J1_charAt (l : Launch) (D : va_G) (cI cC cM : ClassId) (tx tv : Nat) (k : Nat) (hk : k < 84) : CX l D cI cC cM tx tv yJ1_charAt_3b067 wsJ1_charAt_3b067 rm_J1_charAt [.ref tv, .int (nI k)] (txB.getD k 0) := by
  refine CX.of (cc := cJ1_charAt_3b067) (nL := 2) (ret := (some .char)) (by decide) rfl (Nat.le_of_ble_eq_true rfl) ?_
  intro p e s m args below meth c A hC hX hS ls hl
  obtain ⟨hx, hb, hml, hown, hts, hr, hlk, hG, hA⟩ := id hC
  have hown : s.vm.findClass RJ1 = some m.cls := hown
  have hl : lv_has ls 2 [(0, .ref tv), (1, .int (nI k))] := hl
  obtain ⟨t1, t2, -⟩ := txB_ok k hk
  obtain ⟨Q, hQ⟩ : ∃ Q, Q = MQ below (QI D [] (txB.getD k 0) A) args s 0 0 A := ⟨_, rfl⟩
  rw [← hQ]
  refine lv_iload_n hx hb dJ1_charAt_3b067_0 rfl (lv_at hl 1 rfl) ?_
  refine lv_aload_n hx hb dJ1_charAt_3b067_1 rfl (lv_at hl 0 rfl) ?_
  refine va_tlen hx hb hX.2.2.2.1 hS (v := nI 84) rfl dJ1_charAt_3b067_2 ?_
  refine sSv (As := [.int (nI k), .int (nI 84)]) (rest := []) hC hX P0 D0 hS (c_J0_checkIndex l D cI cC cM tx tv (nI k) (nI 84) (nI_pos (by omega)) (nI_lt hk (by omega))) (va_cwS 2 hts gJ1_charAt_3b067_J0_checkIndex_df160 rfl rfl rfl (by decide +kernel) ⟨Nat.le_of_ble_eq_true rfl, Nat.le_of_ble_eq_true rfl⟩) rfl hl.1 rfl (Nat.le_of_ble_eq_true rfl) dJ1_charAt_3b067_3 ⟨Nat.zero_le _, Nat.zero_le _⟩ (fun H locs hP hD hS => ?_)
  refine lv_aload_n hx hb dJ1_charAt_3b067_6 rfl (lv_at hl 0 rfl) ?_
  refine lv_iload_n hx hb dJ1_charAt_3b067_7 rfl (lv_at hl 1 rfl) ?_
  refine va_tb hx hb hX.2.2.2.1 hS (vp_in_nI hk (by omega)) (v := .int (txB.getD k 0)) (by rw [nI_clamp (by omega)]) dJ1_charAt_3b067_8 ?_
  refine lv_sipush (v := (255 : Int32)) hx hb dJ1_charAt_3b067_9 (by decide) ?_
  refine lv_iand hx hb dJ1_charAt_3b067_12 ?_
  refine lv_i2c hx hb dJ1_charAt_3b067_13 t1 ?_
  rw [hQ]
  exact xrz hC (okc_n t2) hP hS dJ1_charAt_3b067_14
def rm_J0_charAt : Room := { frames := 3, cells := 0, slots := 0, locals := 64 }
set_option maxHeartbeats 4000000 in
set_option maxRecDepth 100000 in
theorem c_J0_charAt (l : Launch) (D : va_G) (cI cC cM : ClassId) (tx tv : Nat) (k : Nat) (hk : k < 84) : CX l D cI cC cM tx tv yJ0_charAt_5068e wsJ0_charAt_5068e rm_J0_charAt [.ref tx, .int (nI k)] (txB.getD k 0) := by
  refine CX.of (cc := cJ0_charAt_5068e) (nL := 2) (ret := (some .char)) (by decide) rfl (Nat.le_of_ble_eq_true rfl) ?_
  intro p e s m args below meth c A hC hX hS ls hl
  obtain ⟨hx, hb, hml, hown, hts, hr, hlk, hG, hA⟩ := id hC
  have hown : s.vm.findClass RJ0 = some m.cls := hown
  have hl : lv_has ls 2 [(0, .ref tx), (1, .int (nI k))] := hl
  obtain ⟨t1, t2, -⟩ := txB_ok k hk
  have k9 := hts (.fieldLink RJ0 9 "java/lang/String" "value" "[B") (List.mem_of_getElem? (i := 1) rfl)
  obtain ⟨Q, hQ⟩ : ∃ Q, Q = MQ below (QI D [] (txB.getD k 0) A) args s 0 0 A := ⟨_, rfl⟩
  rw [← hQ]
  refine lv_aload_n hx hb dJ0_charAt_5068e_0 rfl (lv_at hl 0 rfl) ?_
  refine sVi (As := []) (rest := []) hC hX P0 D0 hS (c_J0_isLatin1 l D cI cC cM tx tv) (cwV 0 hts gJ0_charAt_5068e_J0_isLatin1_aae02 rfl rfl rfl (by decide +kernel) ⟨Nat.le_of_ble_eq_true rfl, Nat.le_of_ble_eq_true rfl⟩) rfl hl.1 rfl (Nat.le_of_ble_eq_true rfl) dJ0_charAt_5068e_1 ⟨Nat.zero_le _, Nat.zero_le _⟩ (fun H locs hP hD hS => ?_)
  refine lv_if_eq (tgt := 16) hx hb dJ0_charAt_5068e_4 (by decide) (fun c1 => absurd c1 (by decide)) (fun _ => ?_)
  refine lv_aload_n hx hb dJ0_charAt_5068e_7 rfl (lv_at hl 0 rfl) ?_
  refine vk_getf (o := "java/lang/String") (n := "value") (d := "[B") (v := .ref tv) hx hb hX.2.2.1 hS hown k9 (fun _ h => h) dJ0_charAt_5068e_8 ?_
  refine lv_iload_n hx hb dJ0_charAt_5068e_11 rfl (lv_at hl 1 rfl) ?_
  refine sSi (As := [.ref tv, .int (nI k)]) (rest := []) hC hX hP hD hS (c_J1_charAt l D cI cC cM tx tv k hk) (va_cwS 2 hts gJ0_charAt_5068e_J1_charAt_3b067 rfl rfl rfl (by decide +kernel) ⟨Nat.le_of_ble_eq_true rfl, Nat.le_of_ble_eq_true rfl⟩) rfl hl.1 rfl (Nat.le_of_ble_eq_true rfl) dJ0_charAt_5068e_12 ⟨Nat.zero_le _, Nat.zero_le _⟩ (fun H locs hP hD hS => ?_)
  rw [hQ]
  exact xrz hC (okc_n t2) hP hS dJ0_charAt_5068e_15
