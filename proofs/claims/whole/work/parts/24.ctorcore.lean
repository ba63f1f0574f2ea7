-- constructors: what is new
def PN (D : va_G) (cI cC cM : ClassId) (ws : va_W) (sz : Nat) : State → Prop := fun U => U.heap.size = sz ∧ va_P D vwCl ws U.heap ∧ (GK D cI cC cM U ∧ va_AO RX1 U) ∧ va_D (fun _ => True) ws
theorem PN.blind {D : va_G} {cI cC cM : ClassId} {ws : va_W} {sz : Nat} {av : List Value} : FrameBlind (va_Pc av (PN D cI cC cM ws sz)) := fun a U g mk q => by
  obtain ⟨q0, q1, qP, ⟨qK, qO⟩, qD⟩ := q
  exact ⟨q0, q1, qP, ⟨qK.calling g mk a, va_AO.moved (u := U) (U := U.calling g mk a) (Vm.Alike.refl U.vm) qO⟩, qD⟩
abbrev QN (D : va_G) (post : va_W → Prop) (A : Nat → Prop) : Array Value → State → Outcome → State → Prop := va_Qv (fun (_ : Unit) => True) (fun _ t => ∃ ws', post ws' ∧ va_P D vwCl ws' t.heap ∧ va_D A ws') A
def CN (l : Launch) (D : va_G) (cI cC cM : ClassId) (y : MethodName) (wy : List Cond) (rm : Room) (av : List Value) (ws : va_W) (post : va_W → Prop) (mc ms : Nat) : Prop := ∀ sz : Nat, Met l y wy rm (va_Pc av (PN D cI cC cM ws sz)) (QN D post (va_A ws sz)) mc ms (va_A ws sz)
theorem CN.of {l : Launch} {D : va_G} {cI cC cM : ClassId} {y : MethodName} {wy wy' : List Cond} {rm : Room} {av : List Value} {ws : va_W} {cc : ByteArray} {nL mc ms : Nat} {post : va_W → Prop} (hy : plainName y.cls = true) (hw : wy = Cond.code y cc nL none :: wy') (hn : y.name = "<init>") (hlen : (lg_sl av).length ≤ nL)
    (body : ∀ p e s m args below meth c A, Ctx p s m args meth c D cI cC cM A y.cls cc nL none wy → va_AO RX1 s → meth.name = "<init>" → va_P D vwCl ws s.heap → va_D A ws → va_S A s.heap s.heap [] → ∀ ls, lv_has ls nL (lv_args 0 av) → W p l e rm s m args below meth c s.heap [] 0 0 (MQ below (QN D post A) args s mc ms A) (F0 m 0 ls [])) : CN l D cI cC cM y wy rm av ws post mc ms := fun sz => by
  refine Met.ofW (cc := cc) (maxL := nL) (ret := none) hy hw ?_
  intro p e s m args below meth c s₁ B hml hv
  obtain ⟨rfl, hsz, hP, hK, hD⟩ := hv
  subst hsz
  have hl := lv_entry av (n := nL) hlen
  rw [lg_entry_eq]
  exact body p e s m _ below meth c (va_A ws s.heap.size) ⟨B.exec, B.bytes, hml, findClass_of_methodNamed B.named, atoms_spec (ws := wy) B.pre, B.returns, B.notSynchronized, hK.1, fun q h => Or.inr h⟩ hK.2 ((name_of_methodNamed B.named B.method).1.trans hn) hP hD.self va_S.rf _ hl
theorem ra_int {s : State} {c1 c2 : ClassId} (h1 : va_RA s c1 .int) (h2 : va_RA s c2 .int) : c1 = c2 := Option.some.inj ((va_nm_int h1).symm.trans (va_nm_int h2))
theorem ra_char {s : State} {c1 c2 : ClassId} (h1 : va_RA s c1 .char) (h2 : va_RA s c2 .char) : c1 = c2 := Option.some.inj ((va_nm_char h1).symm.trans (va_nm_char h2))
theorem ra_obj {s : State} {c1 c2 : ClassId} {C : String} (h1 : va_RA s c1 (.object C)) (h2 : va_RA s c2 (.object C)) : c1 = c2 := by
  obtain ⟨_, _, _, _, _, h1⟩ := h1
  obtain ⟨_, _, _, _, _, h2⟩ := h2
  exact Option.some.inj (h1.symm.trans h2)
theorem tys_last {tys : List (ClassId × FieldType)} {x : ClassId × FieldType} : (tys ++ [x])[tys.length]? = some x := by simp
section CTORROWS
variable {p : Program} {l : Launch} {e : Env} {R : Room} {s : State} {m : MethodId} {args : Array Value} {below : List Frame} {meth : Method} {c : Code} {H : Heap} {locs : List Loc} {cells slots mc ms : Nat} {Q : State → Prop}
variable {D : va_G} {cI cC cM : ClassId} {A : Nat → Prop} {own C host : String} {cc bytes : ByteArray} {nL maxL n index : Nat} {mret ret : Option FieldType} {Ts : List Cond} {y : MethodName} {wy : List Cond} {rm : Room} {ws wc wr : va_W} {b pc : Nat} {As rest st : List Value} {ls : Array Slot} {post : va_W → Prop}
theorem nnewi (hC : Ctx p s m args meth c D cI cC cM A own cc nL mret Ts) (harr : (Cond.arrayClass .int).before args s = true) (hP : va_P D vwCl ws H) (hD : va_D A ws) (hS : va_S A s.heap H locs) {v : Int32} {N' : Nat} (hn : ¬ v < 0) (hN : v.toNatClampNeg = N') (hbytes : N' * 4 ≤ 536870912) (hcells : cells + 1 ≤ R.cells) (hslots : slots + N' ≤ R.slots) (hdg : decode cc pc = .ok (.newarray .int, 2))
    (kk : ∀ (q : Nat) (H1 : Heap), va_P D vwCl (ws ++ [(q, .inl (cI, N', .inl (fun _ => 0)))]) H1 → va_D A (ws ++ [(q, .inl (cI, N', .inl (fun _ => 0)))]) → va_S A s.heap H1 locs → W p l e R s m args below meth c H1 locs (cells + 1) (slots + N') Q (F0 m (pc + 2) ls (.ref q :: rest))) : W p l e R s m args below meth c H locs cells slots Q (F0 m pc ls (.int v :: rest)) := by
  refine va_newa (atype := .int) hC.1 hC.2.1 harr rfl hC.gk.1 hP hD hS hC.hA (a0 := (N', .inl (fun _ => 0))) (fun cA => rfl) hn hN hbytes hcells hslots hdg (fun q cA H1 hK hP hD hS => ?_)
  have h1 : va_RA s cA .int := (hK.2 3 _ rfl).2
  have h2 : va_RA s cI .int := (hC.gk.1.2 0 _ rfl).2
  have e := ra_int h1 h2
  subst e
  exact kk q H1 hP hD hS
theorem nnewc (hC : Ctx p s m args meth c D cI cC cM A own cc nL mret Ts) (harr : (Cond.arrayClass .char).before args s = true) (hP : va_P D vwCl ws H) (hD : va_D A ws) (hS : va_S A s.heap H locs) {v : Int32} {N' : Nat} (hn : ¬ v < 0) (hN : v.toNatClampNeg = N') (hbytes : N' * 2 ≤ 536870912) (hcells : cells + 1 ≤ R.cells) (hslots : slots + N' ≤ R.slots) (hdg : decode cc pc = .ok (.newarray .char, 2))
    (kk : ∀ (q : Nat) (H1 : Heap), va_P D vwCl (ws ++ [(q, .inl (cC, N', .inl (fun _ => 0)))]) H1 → va_D A (ws ++ [(q, .inl (cC, N', .inl (fun _ => 0)))]) → va_S A s.heap H1 locs → W p l e R s m args below meth c H1 locs (cells + 1) (slots + N') Q (F0 m (pc + 2) ls (.ref q :: rest))) : W p l e R s m args below meth c H locs cells slots Q (F0 m pc ls (.int v :: rest)) := by
  refine va_newa (atype := .char) hC.1 hC.2.1 harr rfl hC.gk.1 hP hD hS hC.hA (a0 := (N', .inl (fun _ => 0))) (fun cA => rfl) hn hN hbytes hcells hslots hdg (fun q cA H1 hK hP hD hS => ?_)
  have h1 : va_RA s cA .char := (hK.2 3 _ rfl).2
  have h2 : va_RA s cC .char := (hC.gk.1.2 1 _ rfl).2
  have e := ra_char h1 h2
  subst e
  exact kk q H1 hP hD hS
theorem nnewm (hC : Ctx p s m args meth c D cI cC cM A own cc nL mret Ts) (hO : va_AO RX1 s) (hclink : (Cond.classLink own index RX1).before args s = true) (hP : va_P D vwCl ws H) (hD : va_D A ws) (hS : va_S A s.heap H locs) {v : Int32} {N' : Nat} (hn : ¬ v < 0) (hN : v.toNatClampNeg = N') (hbytes : N' * 4 ≤ 536870912) (hcells : cells + 1 ≤ R.cells) (hslots : slots + N' ≤ R.slots) (hdg : decode cc pc = .ok (.anewarray index, 3))
    (kk : ∀ (q : Nat) (H1 : Heap), va_P D vwCl (ws ++ [(q, .inl (cM, N', .inr (.inr (.inr (.inr (fun _ => none))))))]) H1 → va_D A (ws ++ [(q, .inl (cM, N', .inr (.inr (.inr (.inr (fun _ => none))))))]) → va_S A s.heap H1 locs → W p l e R s m args below meth c H1 locs (cells + 1) (slots + N') Q (F0 m (pc + 3) ls (.ref q :: rest))) : W p l e R s m args below meth c H locs cells slots Q (F0 m pc ls (.int v :: rest)) := by
  refine va_newq hC.1 hC.2.1 hC.2.2.2.1 hclink hO hC.gk.1 hP hD hS hC.hA hn hN hbytes hcells hslots hdg (fun q cA H1 hK hP hD hS => ?_)
  have h1 : va_RA s cA (.object RX1) := (hK.2 3 _ rfl).2
  have h2 : va_RA s cM (.object RX1) := (hC.gk.1.2 2 _ rfl).2
  have e := ra_obj h1 h2
  subst e
  exact kk q H1 hP hD hS
theorem after_n {st0 : List Value} {a : Array Value} (hr : va_Run p l e R s m args below meth c H locs cells slots mc ms (F0 m pc ls st0) rest (QN D post (va_A wc H.size) a) (va_A wc H.size)) (hP : va_P D vwCl ws H) (hD : va_D A ws) (hS : va_S A s.heap H locs) (hA : ∀ q : Nat, s.heap.size ≤ q → A q)
    (isC isR : List Nat) (hC : isC.map (fun i => ws[i]?) = wc.map some) (hR : isR.map (fun i => ws[i]?) = wr.map some) (hn : va_nd isR = true) (hdis : ∀ i ∈ isR, i ∉ isC)
    (kk : ∀ (w1 : va_W) (H1 : Heap) (locs1 : List Loc), post w1 → va_P D vwCl (wr ++ w1) H1 → va_D A (wr ++ w1) → va_S A s.heap H1 locs1 → W p l e R s m args below meth c H1 locs1 (cells + mc) (slots + ms) Q (F0 m (pc + 3) ls rest)) : W p l e R s m args below meth c H locs cells slots Q (F0 m pc ls st0) := by
  have hFc := va_free (wc := wc) hD hS hA isC hC
  refine va_callv hr hS (fun q _ h => hFc q h) hFc (fun u t H1 locs1 ht hvm hw hB hz hk hS1 => ?_)
  obtain ⟨w1, h1, h2, h3⟩ := hB
  rw [ht] at h2
  obtain ⟨g1, g2⟩ := va_join hP hD isC isR hC hR hn hdis hk hFc h2 h3
  exact kk w1 H1 locs1 h1 g1 g2 hS1
theorem pn_in (hG : GK D cI cC cM s) (hO : va_AO RX1 s) (hP : va_P D vwCl ws H) (hD : va_D A ws) (is : List Nat) (hn : va_nd is = true) (hC : is.map (fun i => ws[i]?) = wc.map some) (av : List Value) : ∀ U : State, U.heap = H → s.WarmedH U.vm → va_Pc av (PN D cI cC cM wc H.size) av.toArray U := by
  intro U hU hW
  obtain ⟨h1, h2, h3, h4, h5⟩ := pw_in hG hP hD is hn hC av U hU hW
  exact ⟨h1, h2, h3, ⟨h4, va_AO.moved hW.alike hO⟩, h5⟩
theorem xCI (hC : Ctx p s m args meth c D cI cC cM A own cc nL mret Ts) (hO : va_AO RX1 s) (hP : va_P D vwCl ws H) (hD : va_D A ws) (hS : va_S A s.heap H locs) (isC isR : List Nat) (hM : CN l D cI cC cM y wy rm (.ref b :: As) wc post mc ms) (cw : CallB R s args own index y bytes maxL none wy rm mc ms n ∧ y.name = "<init>" ∧ (Cond.instanceMethod y).before args s = true) (hCc : isC.map (fun i => ws[i]?) = wc.map some) (hnd : va_nd isC = true) (hR : isR.map (fun i => ws[i]?) = wr.map some) (hnR : va_nd isR = true) (hdis : ∀ i ∈ isR, i ∉ isC) (hn : As.length = n) (hsize : ls.size = nL) (hst : st = As.reverse ++ .ref b :: rest) (hW : (rest.map fun v => v.category).sum ≤ 8) (hdg : decode cc pc = .ok (.invokespecial index, 3)) (hf : cells + mc ≤ R.cells ∧ slots + ms ≤ R.slots)
    (kk : ∀ (w1 : va_W) (H1 : Heap) (locs1 : List Loc), post w1 → va_P D vwCl (wr ++ w1) H1 → va_D A (wr ++ w1) → va_S A s.heap H1 locs1 → W p l e R s m args below meth c H1 locs1 (cells + mc) (slots + ms) Q (F0 m (pc + 3) ls rest)) : W p l e R s m args below meth c H locs cells slots Q (F0 m pc ls st) :=
  after_n (va_runI hC.fix (hM H.size) cw ⟨PN.blind, pn_in hC.gk hO hP hD isC hnd hCc _⟩ rfl hn hsize hst (lv_room hW) hdg hf) hP hD hS hC.hA isC isR hCc hR hnR hdis kk
theorem xCN (hC : Ctx p s m args meth c D cI cC cM A own cc nL mret Ts) (hO : va_AO RX1 s) (hP : va_P D vwCl ws H) (hD : va_D A ws) (hS : va_S A s.heap H locs) (isC isR : List Nat) (hM : CN l D cI cC cM y wy rm (.ref b :: As) wc post mc ms) (cw : va_CN R s args own index y host bytes maxL none wy rm mc ms n ∧ y.name = "<init>" ∧ (Cond.instanceMethod y).before args s = true) (hCc : isC.map (fun i => ws[i]?) = wc.map some) (hnd : va_nd isC = true) (hR : isR.map (fun i => ws[i]?) = wr.map some) (hnR : va_nd isR = true) (hdis : ∀ i ∈ isR, i ∉ isC) (hn : As.length = n) (hsize : ls.size = nL) (hst : st = As.reverse ++ .ref b :: rest) (hW : (rest.map fun v => v.category).sum ≤ 8) (hdg : decode cc pc = .ok (.invokespecial index, 3)) (hf : cells + mc ≤ R.cells ∧ slots + ms ≤ R.slots)
    (kk : ∀ (w1 : va_W) (H1 : Heap) (locs1 : List Loc), post w1 → va_P D vwCl (wr ++ w1) H1 → va_D A (wr ++ w1) → va_S A s.heap H1 locs1 → W p l e R s m args below meth c H1 locs1 (cells + mc) (slots + ms) Q (F0 m (pc + 3) ls rest)) : W p l e R s m args below meth c H locs cells slots Q (F0 m pc ls st) :=
  after_n (va_runIN hC.fix (hM H.size) cw ⟨PN.blind, pn_in hC.gk hO hP hD isC hnd hCc _⟩ rfl hn hsize hst (lv_room hW) hdg hf) hP hD hS hC.hA isC isR hCc hR hnR hdis kk
theorem xrn {ws' : va_W} (hC : Ctx p s m args meth c D cI cC cM A own cc nL none Ts) (hp : post ws') (hP : va_P D vwCl ws' H) (hD : va_D A ws') (hS : va_S A s.heap H locs) (hdg : decode cc pc = .ok (.return_, 1)) : W p l e R s m args below meth c H locs cells slots (MQ below (QN D post A) args s cells slots A) (F0 m pc ls []) :=
  W.vret hC.1 hC.2.1 hC.2.2.2.2.2.1 (fun t ht hW => ⟨⟨(), rfl, trivial, ws', hp, by rw [ht]; exact hP, hD⟩, hS.F ht⟩) hS.2.2 hdg hC.2.2.2.2.2.2.1
end CTORROWS
