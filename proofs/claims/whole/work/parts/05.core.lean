abbrev vwCl : List vw_C := [(RX0, TX0, 4), (RX1, TX1, 9), (RX2, TX2, 7), (RX3, TX3, 3), (RX4, TX4, 2), (RX5, TX5, 3), (RX6, TX6, 2), (RX7, TX7, 9), (RX8, TX8, 19)]
-- decompiled methods are functions into Option: what they need of their data stands in them
theorem op_pos {α : Type} {c : Prop} {d : Decidable c} {t e : Option α} {r : α} (hc : c) (h : (@ite (Option α) c d t e) = some r) : t = some r := by
  rw [if_pos hc] at h; exact h
theorem op_neg {α : Type} {c : Prop} {d : Decidable c} {t e : Option α} {r : α} (hc : ¬ c) (h : (@ite (Option α) c d t e) = some r) : e = some r := by
  rw [if_neg hc] at h; exact h
theorem op_ob {α : Type} {c : Prop} {d : Decidable c} {t : Option α} {r : α} (h : (@ite (Option α) c d t none) = some r) : c ∧ t = some r := by
  by_cases hc : c
  · rw [if_pos hc] at h; exact ⟨hc, h⟩
  · rw [if_neg hc] at h; cases h
theorem op_nz {α : Type} {c : Prop} {d : Decidable c} {t : Option α} {r : α} (h : (@ite (Option α) c d none t) = some r) : ¬ c ∧ t = some r := by
  by_cases hc : c
  · rw [if_pos hc] at h; cases h
  · rw [if_neg hc] at h; exact ⟨hc, h⟩
theorem op_bind {α β : Type} {x : Option β} {f : β → Option α} {r : α} (h : Option.bind x f = some r) : ∃ b, x = some b ∧ f b = some r := Option.bind_eq_some_iff.mp h
/-- an index is inside a row -/
def okb (i : Int32) (n : Nat) : Bool := decide (0 ≤ i.toInt ∧ i.toInt < n)
theorem okb_in {i : Int32} {n : Nat} (h : okb i n = true) : vp_in i n := vp_in_iff.mpr (of_decide_eq_true h)
theorem alen_n (n : Nat) : Int32.ofNat n = nI n := rfl
-- the nest mates' links
def nws : List (String × Nat × MethodName × String) := [(RX7, 9, yX6_init, "ParasolHours"), (RX7, 18, yX3_init, "ParasolHours"), (RX3, 11, yX2_init, "ParasolHours"), (RX7, 25, yX2_init, "ParasolHours"), (RX7, 56, yX5_init, "ParasolHours"), (RX7, 63, yX0_init, "ParasolHours"), (RX3, 76, yX7_put, "ParasolHours"), (RX3, 93, yX7_at, "ParasolHours"), (RX3, 97, yX7_isHour, "ParasolHours"), (RX2, 34, yX7_copyRow, "ParasolHours"), (RX1, 41, yX7_copyRow, "ParasolHours"), (RX2, 38, yX7_at, "ParasolHours"), (RX1, 45, yX7_at, "ParasolHours"), (RX1, 49, yX7_hasBit, "ParasolHours"), (RX1, 100, yX7_put, "ParasolHours"), (RX1, 150, yX7_turnsOf, "ParasolHours"), (RX1, 153, yX7_turnOf, "ParasolHours"), (RX1, 156, yX7_wearOf, "ParasolHours"), (RX0, 36, yX7_put, "ParasolHours"), (RX0, 40, yX7_at, "ParasolHours"), (RX0, 69, yX7_copyRow, "ParasolHours"), (RX0, 73, yX7_hasBit, "ParasolHours"), (RX5, 22, yX7_put, "ParasolHours"), (RX5, 26, yX7_at, "ParasolHours"), (RX1, 167, yX7_choicesOf, "ParasolHours"), (RX1, 170, yX7_power, "ParasolHours"), (RX1, 173, yX7_modulo, "ParasolHours")]
/-- what the tables say of classes, arrays and nest mates -/
def GK (D : va_G) (cI cC cM : ClassId) (U : State) : Prop := va_K D vwCl [(cI, .int), (cC, .char), (cM, .object RX1)] U ∧ ∀ q ∈ nws, va_Nw (.methodLinkNest q.1 q.2.1 q.2.2.1 q.2.2.2) U
theorem GK.warm {D : va_G} {cI cC cM : ClassId} {s U : State} (h : GK D cI cC cM s) (hW : s.WarmedH U.vm) : GK D cI cC cM U := ⟨va_K.moved hW.alike h.1, fun q hq => va_Nw.warmM hW (h.2 q hq)⟩
theorem GK.calling {D : va_G} {cI cC cM : ClassId} {U : State} (g : JFrame) (mk : MethodId) (a : Array Value) (h : GK D cI cC cM U) : GK D cI cC cM (U.calling g mk a) := ⟨va_K.moved (u := U) (U := U.calling g mk a) (Vm.Alike.refl U.vm) h.1, fun q hq => va_Nw.same rfl rfl (h.2 q hq)⟩
theorem GK.nw {D : va_G} {cI cC cM : ClassId} {U : State} (h : GK D cI cC cM U) (k : Nat) {a : String} {i : Nat} {y : MethodName} {b : String} (hk : nws[k]? = some (a, i, y, b)) : va_Nw (.methodLinkNest a i y b) U := h.2 _ (List.mem_of_getElem? hk)
/-- the world at a method's start -/
def PW (D : va_G) (cI cC cM : ClassId) (ws : va_W) (sz : Nat) : State → Prop := fun U => U.heap.size = sz ∧ va_P D vwCl ws U.heap ∧ GK D cI cC cM U ∧ va_D (fun _ => True) ws
theorem PW.blind {D : va_G} {cI cC cM : ClassId} {ws : va_W} {sz : Nat} {av : List Value} : FrameBlind (va_Pc av (PW D cI cC cM ws sz)) := fun a U g mk q => by
  obtain ⟨q0, q1, qP, qK, qD⟩ := q
  exact ⟨q0, q1, qP, qK.calling g mk a, qD⟩
/-- contracts: the world ws becomes ws' (same addresses, nothing made), the answer is r -/
abbrev QI (D : va_G) (ws' : va_W) (r : Int32) (A : Nat → Prop) : Array Value → State → Outcome → State → Prop := va_Qi (fun (x : Int32) (_ : Unit) => x = r) (fun _ t => va_P D vwCl ws' t.heap) A
abbrev QV (D : va_G) (ws' : va_W) (A : Nat → Prop) : Array Value → State → Outcome → State → Prop := va_Qv (fun (_ : Unit) => True) (fun _ t => va_P D vwCl ws' t.heap) A
abbrev QR (D : va_G) (ws' : va_W) (r : Option Nat) (A : Nat → Prop) : Array Value → State → Outcome → State → Prop := va_Qq (fun (x : Option Nat) (_ : Unit) => x = r) (fun _ t => va_P D vwCl ws' t.heap) A
def CI (l : Launch) (D : va_G) (cI cC cM : ClassId) (y : MethodName) (wy : List Cond) (rm : Room) (av : List Value) (ws ws' : va_W) (r : Int32) : Prop := ∀ sz : Nat, Met l y wy rm (va_Pc av (PW D cI cC cM ws sz)) (QI D ws' r (va_A ws sz)) 0 0 (va_A ws sz)
def CV (l : Launch) (D : va_G) (cI cC cM : ClassId) (y : MethodName) (wy : List Cond) (rm : Room) (av : List Value) (ws ws' : va_W) : Prop := ∀ sz : Nat, Met l y wy rm (va_Pc av (PW D cI cC cM ws sz)) (QV D ws' (va_A ws sz)) 0 0 (va_A ws sz)
def CR (l : Launch) (D : va_G) (cI cC cM : ClassId) (y : MethodName) (wy : List Cond) (rm : Room) (av : List Value) (ws ws' : va_W) (r : Option Nat) : Prop := ∀ sz : Nat, Met l y wy rm (va_Pc av (PW D cI cC cM ws sz)) (QR D ws' r (va_A ws sz)) 0 0 (va_A ws sz)
/-- what holds in a method's body, whatever it does -/
def Ctx (p : Program) (s : State) (m : MethodId) (args : Array Value) (meth : Method) (c : Code) (D : va_G) (cI cC cM : ClassId) (A : Nat → Prop) (own : String) (cc : ByteArray) (nL : Nat) (ret : Option FieldType) (wy : List Cond) : Prop :=
  p.tables.exec = Jvm.exec ∧ c.code = cc ∧ c.maxLocals = nL ∧ s.vm.findClass own = some m.cls ∧ (∀ w ∈ wy, w.before args s = true) ∧ meth.sig.returnType = ret ∧ meth.locks = false ∧ GK D cI cC cM s ∧ ∀ q : Nat, s.heap.size ≤ q → A q
section COREM
variable {l : Launch} {D : va_G} {cI cC cM : ClassId} {y : MethodName} {wy wy' : List Cond} {rm : Room} {av : List Value} {ws ws' : va_W} {cc : ByteArray} {nL : Nat} {ret : Option FieldType}
theorem body_of {Qc : (Nat → Prop) → Array Value → State → Outcome → State → Prop} {sz : Nat} (hy : plainName y.cls = true) (hw : wy = Cond.code y cc nL ret :: wy') (hlen : (lg_sl av).length ≤ nL)
    (body : ∀ p e s m args below meth c A, Ctx p s m args meth c D cI cC cM A y.cls cc nL ret wy → va_P D vwCl ws s.heap → va_D A ws → va_S A s.heap s.heap [] → ∀ ls, lv_has ls nL (lv_args 0 av) → W p l e rm s m args below meth c s.heap [] 0 0 (MQ below (Qc A) args s 0 0 A) (F0 m 0 ls [])) :
    Met l y wy rm (va_Pc av (PW D cI cC cM ws sz)) (Qc (va_A ws sz)) 0 0 (va_A ws sz) := by
  refine Met.ofW (cc := cc) (maxL := nL) (ret := ret) hy hw ?_
  intro p e s m args below meth c s₁ B hml hv
  obtain ⟨rfl, hsz, hP, hK, hD⟩ := hv
  subst hsz
  have hl := lv_entry av (n := nL) hlen
  rw [lg_entry_eq]
  exact body p e s m _ below meth c (va_A ws s.heap.size) ⟨B.exec, B.bytes, hml, findClass_of_methodNamed B.named, atoms_spec (ws := wy) B.pre, B.returns, B.notSynchronized, hK, fun q h => Or.inr h⟩ hP hD.self va_S.rf _ hl
theorem CI.of {r : Int32} (hy : plainName y.cls = true) (hw : wy = Cond.code y cc nL ret :: wy') (hlen : (lg_sl av).length ≤ nL)
    (body : ∀ p e s m args below meth c A, Ctx p s m args meth c D cI cC cM A y.cls cc nL ret wy → va_P D vwCl ws s.heap → va_D A ws → va_S A s.heap s.heap [] → ∀ ls, lv_has ls nL (lv_args 0 av) → W p l e rm s m args below meth c s.heap [] 0 0 (MQ below (QI D ws' r A) args s 0 0 A) (F0 m 0 ls [])) : CI l D cI cC cM y wy rm av ws ws' r := fun sz => body_of (Qc := QI D ws' r) (sz := sz) hy hw hlen body
theorem CV.of (hy : plainName y.cls = true) (hw : wy = Cond.code y cc nL ret :: wy') (hlen : (lg_sl av).length ≤ nL)
    (body : ∀ p e s m args below meth c A, Ctx p s m args meth c D cI cC cM A y.cls cc nL ret wy → va_P D vwCl ws s.heap → va_D A ws → va_S A s.heap s.heap [] → ∀ ls, lv_has ls nL (lv_args 0 av) → W p l e rm s m args below meth c s.heap [] 0 0 (MQ below (QV D ws' A) args s 0 0 A) (F0 m 0 ls [])) : CV l D cI cC cM y wy rm av ws ws' := fun sz => body_of (Qc := QV D ws') (sz := sz) hy hw hlen body
theorem CR.of {r : Option Nat} (hy : plainName y.cls = true) (hw : wy = Cond.code y cc nL ret :: wy') (hlen : (lg_sl av).length ≤ nL)
    (body : ∀ p e s m args below meth c A, Ctx p s m args meth c D cI cC cM A y.cls cc nL ret wy → va_P D vwCl ws s.heap → va_D A ws → va_S A s.heap s.heap [] → ∀ ls, lv_has ls nL (lv_args 0 av) → W p l e rm s m args below meth c s.heap [] 0 0 (MQ below (QR D ws' r A) args s 0 0 A) (F0 m 0 ls [])) : CR l D cI cC cM y wy rm av ws ws' r := fun sz => body_of (Qc := QR D ws' r) (sz := sz) hy hw hlen body
end COREM
-- a world of which some cells have new contents
def setAll : va_W → List Nat → va_W → va_W
  | ws, i :: is, q :: qs => setAll (ws.set i q) is qs
  | ws, _, _ => ws
theorem setAll_spec : ∀ (is : List Nat) (qs ws : va_W) (k : Nat) (q : Nat × va_E), is.length = qs.length → (setAll ws is qs)[k]? = some q → (∃ j : Nat, is[j]? = some k ∧ qs[j]? = some q) ∨ (k ∉ is ∧ ws[k]? = some q)
  | [], qs, ws, k, q, _, h => Or.inr ⟨List.not_mem_nil, by cases qs <;> exact h⟩
  | i :: is, [], ws, k, q, hl, h => by simp at hl
  | i :: is, q0 :: qs, ws, k, q, hl, h => by
    rcases setAll_spec is qs (ws.set i q0) k q (by simpa using hl) h with ⟨j, h1, h2⟩ | ⟨h1, h2⟩
    · exact Or.inl ⟨j + 1, by simpa using h1, by simpa using h2⟩
    · by_cases hk : k = i
      · subst hk
        rw [List.getElem?_set] at h2
        simp only [if_true] at h2
        split at h2
        · exact Or.inl ⟨0, rfl, h2⟩
        · cases h2
      · rw [List.getElem?_set, if_neg (Ne.symm hk)] at h2
        exact Or.inr ⟨fun hm => (List.mem_cons.mp hm).elim hk h1, h2⟩
theorem setAll_join {A : Nat → Prop} {D : va_G} {cl : List vw_C} {ws wc wc' : va_W} {H H1 : Heap} (hP : va_P D cl ws H) (hD : va_D A ws) (is : List Nat) (hC : is.map (fun i => ws[i]?) = wc.map some) (hadr : wc'.map (fun q => q.1) = wc.map (fun q => q.1))
    (hk : ∀ q : Nat, q < H.size → ¬ va_A wc H.size q → H1[q]? = H[q]?) (hP1 : va_P D cl wc' H1) : va_P D cl (setAll ws is wc') H1 ∧ va_D A (setAll ws is wc') := by
  have hlc : is.length = wc.length := by have := congrArg List.length hC; simpa using this
  have hl : is.length = wc'.length := by have := congrArg List.length hadr; simp at this; omega
  have at' : ∀ (j k : Nat), is[j]? = some k → wc[j]? = ws[k]? := by
    intro j k h
    have h1 : (is.map (fun i => ws[i]?))[j]? = (wc.map some)[j]? := by rw [hC]
    rw [List.getElem?_map, List.getElem?_map, h] at h1
    cases hw : wc[j]? with
    | none => rw [hw] at h1; cases h1
    | some v => rw [hw] at h1; exact (Option.some.inj h1).symm
  have adr : ∀ (j : Nat) (q : Nat × va_E), wc'[j]? = some q → ∃ q0, wc[j]? = some q0 ∧ q0.1 = q.1 := by
    intro j q h
    have h1 : (wc'.map (fun q => q.1))[j]? = (wc.map (fun q => q.1))[j]? := by rw [hadr]
    rw [List.getElem?_map, List.getElem?_map, h] at h1
    cases hw : wc[j]? with
    | none => rw [hw] at h1; cases h1
    | some v => rw [hw] at h1; exact ⟨v, rfl, (Option.some.inj h1).symm⟩
  have key : ∀ (k : Nat) (q : Nat × va_E), (setAll ws is wc')[k]? = some q → ∃ q0, ws[k]? = some q0 ∧ q0.1 = q.1 := by
    intro k q h
    rcases setAll_spec is wc' ws k q hl h with ⟨j, h1, h2⟩ | ⟨-, h2⟩
    · obtain ⟨q0, h3, h4⟩ := adr j q h2
      exact ⟨q0, by rw [← at' j k h1]; exact h3, h4⟩
    · exact ⟨q, h2, rfl⟩
  refine ⟨fun k q h => ?_, fun i j x z hi hj hxz => ?_, fun k q h => ?_⟩
  · rcases setAll_spec is wc' ws k q hl h with ⟨j, h1, h2⟩ | ⟨h1, h2⟩
    · exact hP1 j q h2
    · have hlt := (hP k q h2).lt
      refine (hP k q h2).kept (hk q.1 hlt fun hA => ?_)
      rcases hA with ⟨j, e, h3⟩ | h3
      · have hjl : j < is.length := by rw [hlc]; exact (List.getElem?_eq_some_iff.mp h3).1
        have h5 : is[j]? = some is[j] := List.getElem?_eq_getElem hjl
        have h4 := at' j _ h5
        rw [h3] at h4
        have hkk := hD.1 k _ q (q.1, e) h2 h4.symm rfl
        exact h1 (by rw [hkk]; exact List.getElem_mem hjl)
      · omega
  · obtain ⟨x0, a1, a2⟩ := key i x hi
    obtain ⟨z0, b1, b2⟩ := key j z hj
    exact hD.1 i j x0 z0 a1 b1 (by rw [a2, b2]; exact hxz)
  · obtain ⟨q0, a1, a2⟩ := key k q h
    rw [← a2]
    exact hD.2 k q0 a1
theorem setAll_same {ws wc : va_W} (is : List Nat) (hC : is.map (fun i => ws[i]?) = wc.map some) : setAll ws is wc = ws := by
  induction is generalizing wc with
  | nil => cases wc <;> rfl
  | cons i is ih =>
    cases wc with
    | nil => rfl
    | cons q qs =>
      simp only [List.map_cons, List.cons.injEq] at hC
      have h1 : ws.set i q = ws := by
        apply List.ext_getElem?
        intro k
        rw [List.getElem?_set]
        split
        · rename_i h; subst h
          rw [if_pos (List.getElem?_eq_some_iff.mp hC.1).1, hC.1]
        · rfl
      show setAll (ws.set i q) is qs = ws
      rw [h1]
      exact ih hC.2
section COREC
variable {p : Program} {l : Launch} {e : Env} {R : Room} {s : State} {m : MethodId} {args : Array Value} {below : List Frame} {meth : Method} {c : Code} {H : Heap} {locs : List Loc} {cells slots : Nat} {Q : State → Prop}
variable {D : va_G} {cI cC cM : ClassId} {A : Nat → Prop} {own C host : String} {cc bytes : ByteArray} {nL maxL n index : Nat} {mret ret : Option FieldType} {Ts : List Cond} {y : MethodName} {wy : List Cond} {rm : Room} {ws wc wc' ws' : va_W} {b pc : Nat} {As rest st : List Value} {ls : Array Slot} {r : Int32} {ro : Option Nat}
theorem Ctx.fix (h : Ctx p s m args meth c D cI cC cM A own cc nL mret Ts) : CallFix p m c cc nL s args Ts own := ⟨h.1, h.2.1, h.2.2.1, h.2.2.2.1, h.2.2.2.2.1⟩
theorem Ctx.gk (h : Ctx p s m args meth c D cI cC cM A own cc nL mret Ts) : GK D cI cC cM s := h.2.2.2.2.2.2.2.1
theorem Ctx.hA (h : Ctx p s m args meth c D cI cC cM A own cc nL mret Ts) : ∀ q : Nat, s.heap.size ≤ q → A q := h.2.2.2.2.2.2.2.2
/-- what the callee asks: the world's part -/
theorem pw_in (hG : GK D cI cC cM s) (hP : va_P D vwCl ws H) (hD : va_D A ws) (is : List Nat) (hn : va_nd is = true) (hC : is.map (fun i => ws[i]?) = wc.map some) (av : List Value) : ∀ U : State, U.heap = H → s.WarmedH U.vm → va_Pc av (PW D cI cC cM wc H.size) av.toArray U := by
  intro U hU hW
  have hs : is.filterMap (fun i => ws[i]?) = wc := by
    have h := congrArg (List.filterMap (fun x : Option (Nat × va_E) => x)) hC
    rw [List.filterMap_map, List.filterMap_map] at h
    refine h.trans ?_
    show List.filterMap some wc = wc
    simp
  exact ⟨rfl, by rw [hU], by rw [hU]; exact hP.sub is hs, hG.warm hW, (hD.sub is hn hC).weaken fun _ _ _ _ => trivial⟩
theorem after_i {st0 : List Value} {a : Array Value} (hr : va_Run p l e R s m args below meth c H locs cells slots 0 0 (F0 m pc ls st0) rest (QI D wc' r (va_A wc H.size) a) (va_A wc H.size)) (hP : va_P D vwCl ws H) (hD : va_D A ws) (hS : va_S A s.heap H locs) (hA : ∀ q : Nat, s.heap.size ≤ q → A q)
    (is : List Nat) (hC : is.map (fun i => ws[i]?) = wc.map some) (hadr : wc'.map (fun q => q.1) = wc.map (fun q => q.1))
    (kk : ∀ (H1 : Heap) (locs1 : List Loc), va_P D vwCl (setAll ws is wc') H1 → va_D A (setAll ws is wc') → va_S A s.heap H1 locs1 → W p l e R s m args below meth c H1 locs1 cells slots Q (F0 m (pc + 3) ls (.int r :: rest))) : W p l e R s m args below meth c H locs cells slots Q (F0 m pc ls st0) := by
  have hFc := va_free (wc := wc) hD hS hA is hC
  refine va_calli hr hS (fun q _ h => hFc q h) hFc (fun x u t H1 locs1 ht hvm hw hB hz hk hS1 => ?_)
  subst hw
  rw [ht] at hB
  obtain ⟨h1, h2⟩ := setAll_join hP hD is hC hadr hk hB
  exact kk H1 locs1 h1 h2 hS1
theorem after_v {st0 : List Value} {a : Array Value} (hr : va_Run p l e R s m args below meth c H locs cells slots 0 0 (F0 m pc ls st0) rest (QV D wc' (va_A wc H.size) a) (va_A wc H.size)) (hP : va_P D vwCl ws H) (hD : va_D A ws) (hS : va_S A s.heap H locs) (hA : ∀ q : Nat, s.heap.size ≤ q → A q)
    (is : List Nat) (hC : is.map (fun i => ws[i]?) = wc.map some) (hadr : wc'.map (fun q => q.1) = wc.map (fun q => q.1))
    (kk : ∀ (H1 : Heap) (locs1 : List Loc), va_P D vwCl (setAll ws is wc') H1 → va_D A (setAll ws is wc') → va_S A s.heap H1 locs1 → W p l e R s m args below meth c H1 locs1 cells slots Q (F0 m (pc + 3) ls rest)) : W p l e R s m args below meth c H locs cells slots Q (F0 m pc ls st0) := by
  have hFc := va_free (wc := wc) hD hS hA is hC
  refine va_callv hr hS (fun q _ h => hFc q h) hFc (fun u t H1 locs1 ht hvm hw hB hz hk hS1 => ?_)
  rw [ht] at hB
  obtain ⟨h1, h2⟩ := setAll_join hP hD is hC hadr hk hB
  exact kk H1 locs1 h1 h2 hS1
theorem after_q {st0 : List Value} {a : Array Value} (hr : va_Run p l e R s m args below meth c H locs cells slots 0 0 (F0 m pc ls st0) rest (QR D wc' ro (va_A wc H.size) a) (va_A wc H.size)) (hP : va_P D vwCl ws H) (hD : va_D A ws) (hS : va_S A s.heap H locs) (hA : ∀ q : Nat, s.heap.size ≤ q → A q)
    (is : List Nat) (hC : is.map (fun i => ws[i]?) = wc.map some) (hadr : wc'.map (fun q => q.1) = wc.map (fun q => q.1))
    (kk : ∀ (H1 : Heap) (locs1 : List Loc), va_P D vwCl (setAll ws is wc') H1 → va_D A (setAll ws is wc') → va_S A s.heap H1 locs1 → W p l e R s m args below meth c H1 locs1 cells slots Q (F0 m (pc + 3) ls (va_rf ro :: rest))) : W p l e R s m args below meth c H locs cells slots Q (F0 m pc ls st0) := by
  have hFc := va_free (wc := wc) hD hS hA is hC
  refine va_callq hr hS (fun q _ h => hFc q h) hFc (fun x u t H1 locs1 ht hvm hw hB hz hk hS1 => ?_)
  subst hw
  rw [ht] at hB
  obtain ⟨h1, h2⟩ := setAll_join hP hD is hC hadr hk hB
  exact kk H1 locs1 h1 h2 hS1
end COREC
