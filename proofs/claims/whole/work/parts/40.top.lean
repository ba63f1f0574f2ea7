theorem c_pop8x (l : Launch) (D : va_G) (cI cC cM : ClassId) (az azr ap : Nat) (a ah aw aS au : Nat → Nat) (V : Nat → MVt) (aq aqh aqw aqs aqu ap2 : Nat) (qgone qmet qstill qdone : Int32) (qhour qworn qsquare qunder : Nat → Int32) (k : Nat) (hk0 : 0 < k) (hk : k ≤ 8) : CV l D cI cC cM yX4_popInto wsX4_popInto rm_pop8 [.ref az, .ref aq] [(az, .inr (4, [.ref azr, .int (nI k)])), (azr, .inl (cM, 8, .inr (.inr (.inr (.inr (mq8 a)))))), ((a 0), .inr (1, [.ref ap, .int (V 0).1, .int (V 0).2.1, .int (V 0).2.2.1, .int (V 0).2.2.2.1, .ref (ah 0), .ref (aw 0), .ref (aS 0), .ref (au 0)])), ((ah 0), .inl (cI, 6, .inl (V 0).2.2.2.2.1)), ((aw 0), .inl (cI, 6, .inl (V 0).2.2.2.2.2.1)), ((aS 0), .inl (cI, 5, .inl (V 0).2.2.2.2.2.2.1)), ((au 0), .inl (cI, 5, .inl (V 0).2.2.2.2.2.2.2)), ((a 1), .inr (1, [.ref ap, .int (V 1).1, .int (V 1).2.1, .int (V 1).2.2.1, .int (V 1).2.2.2.1, .ref (ah 1), .ref (aw 1), .ref (aS 1), .ref (au 1)])), ((ah 1), .inl (cI, 6, .inl (V 1).2.2.2.2.1)), ((aw 1), .inl (cI, 6, .inl (V 1).2.2.2.2.2.1)), ((aS 1), .inl (cI, 5, .inl (V 1).2.2.2.2.2.2.1)), ((au 1), .inl (cI, 5, .inl (V 1).2.2.2.2.2.2.2)), ((a 2), .inr (1, [.ref ap, .int (V 2).1, .int (V 2).2.1, .int (V 2).2.2.1, .int (V 2).2.2.2.1, .ref (ah 2), .ref (aw 2), .ref (aS 2), .ref (au 2)])), ((ah 2), .inl (cI, 6, .inl (V 2).2.2.2.2.1)), ((aw 2), .inl (cI, 6, .inl (V 2).2.2.2.2.2.1)), ((aS 2), .inl (cI, 5, .inl (V 2).2.2.2.2.2.2.1)), ((au 2), .inl (cI, 5, .inl (V 2).2.2.2.2.2.2.2)), ((a 3), .inr (1, [.ref ap, .int (V 3).1, .int (V 3).2.1, .int (V 3).2.2.1, .int (V 3).2.2.2.1, .ref (ah 3), .ref (aw 3), .ref (aS 3), .ref (au 3)])), ((ah 3), .inl (cI, 6, .inl (V 3).2.2.2.2.1)), ((aw 3), .inl (cI, 6, .inl (V 3).2.2.2.2.2.1)), ((aS 3), .inl (cI, 5, .inl (V 3).2.2.2.2.2.2.1)), ((au 3), .inl (cI, 5, .inl (V 3).2.2.2.2.2.2.2)), ((a 4), .inr (1, [.ref ap, .int (V 4).1, .int (V 4).2.1, .int (V 4).2.2.1, .int (V 4).2.2.2.1, .ref (ah 4), .ref (aw 4), .ref (aS 4), .ref (au 4)])), ((ah 4), .inl (cI, 6, .inl (V 4).2.2.2.2.1)), ((aw 4), .inl (cI, 6, .inl (V 4).2.2.2.2.2.1)), ((aS 4), .inl (cI, 5, .inl (V 4).2.2.2.2.2.2.1)), ((au 4), .inl (cI, 5, .inl (V 4).2.2.2.2.2.2.2)), ((a 5), .inr (1, [.ref ap, .int (V 5).1, .int (V 5).2.1, .int (V 5).2.2.1, .int (V 5).2.2.2.1, .ref (ah 5), .ref (aw 5), .ref (aS 5), .ref (au 5)])), ((ah 5), .inl (cI, 6, .inl (V 5).2.2.2.2.1)), ((aw 5), .inl (cI, 6, .inl (V 5).2.2.2.2.2.1)), ((aS 5), .inl (cI, 5, .inl (V 5).2.2.2.2.2.2.1)), ((au 5), .inl (cI, 5, .inl (V 5).2.2.2.2.2.2.2)), ((a 6), .inr (1, [.ref ap, .int (V 6).1, .int (V 6).2.1, .int (V 6).2.2.1, .int (V 6).2.2.2.1, .ref (ah 6), .ref (aw 6), .ref (aS 6), .ref (au 6)])), ((ah 6), .inl (cI, 6, .inl (V 6).2.2.2.2.1)), ((aw 6), .inl (cI, 6, .inl (V 6).2.2.2.2.2.1)), ((aS 6), .inl (cI, 5, .inl (V 6).2.2.2.2.2.2.1)), ((au 6), .inl (cI, 5, .inl (V 6).2.2.2.2.2.2.2)), ((a 7), .inr (1, [.ref ap, .int (V 7).1, .int (V 7).2.1, .int (V 7).2.2.1, .int (V 7).2.2.2.1, .ref (ah 7), .ref (aw 7), .ref (aS 7), .ref (au 7)])), ((ah 7), .inl (cI, 6, .inl (V 7).2.2.2.2.1)), ((aw 7), .inl (cI, 6, .inl (V 7).2.2.2.2.2.1)), ((aS 7), .inl (cI, 5, .inl (V 7).2.2.2.2.2.2.1)), ((au 7), .inl (cI, 5, .inl (V 7).2.2.2.2.2.2.2)), (aq, .inr (1, [.ref ap2, .int qgone, .int qmet, .int qstill, .int qdone, .ref aqh, .ref aqw, .ref aqs, .ref aqu])), (aqh, .inl (cI, 6, .inl qhour)), (aqw, .inl (cI, 6, .inl qworn)), (aqs, .inl (cI, 5, .inl qsquare)), (aqu, .inl (cI, 5, .inl qunder))] [(az, .inr (4, [.ref azr, .int (nI (k - 1))])), (azr, .inl (cM, 8, .inr (.inr (.inr (.inr (mq8 a)))))), ((a 0), .inr (1, [.ref ap, .int (V 0).1, .int (V 0).2.1, .int (V 0).2.2.1, .int (V 0).2.2.2.1, .ref (ah 0), .ref (aw 0), .ref (aS 0), .ref (au 0)])), ((ah 0), .inl (cI, 6, .inl (V 0).2.2.2.2.1)), ((aw 0), .inl (cI, 6, .inl (V 0).2.2.2.2.2.1)), ((aS 0), .inl (cI, 5, .inl (V 0).2.2.2.2.2.2.1)), ((au 0), .inl (cI, 5, .inl (V 0).2.2.2.2.2.2.2)), ((a 1), .inr (1, [.ref ap, .int (V 1).1, .int (V 1).2.1, .int (V 1).2.2.1, .int (V 1).2.2.2.1, .ref (ah 1), .ref (aw 1), .ref (aS 1), .ref (au 1)])), ((ah 1), .inl (cI, 6, .inl (V 1).2.2.2.2.1)), ((aw 1), .inl (cI, 6, .inl (V 1).2.2.2.2.2.1)), ((aS 1), .inl (cI, 5, .inl (V 1).2.2.2.2.2.2.1)), ((au 1), .inl (cI, 5, .inl (V 1).2.2.2.2.2.2.2)), ((a 2), .inr (1, [.ref ap, .int (V 2).1, .int (V 2).2.1, .int (V 2).2.2.1, .int (V 2).2.2.2.1, .ref (ah 2), .ref (aw 2), .ref (aS 2), .ref (au 2)])), ((ah 2), .inl (cI, 6, .inl (V 2).2.2.2.2.1)), ((aw 2), .inl (cI, 6, .inl (V 2).2.2.2.2.2.1)), ((aS 2), .inl (cI, 5, .inl (V 2).2.2.2.2.2.2.1)), ((au 2), .inl (cI, 5, .inl (V 2).2.2.2.2.2.2.2)), ((a 3), .inr (1, [.ref ap, .int (V 3).1, .int (V 3).2.1, .int (V 3).2.2.1, .int (V 3).2.2.2.1, .ref (ah 3), .ref (aw 3), .ref (aS 3), .ref (au 3)])), ((ah 3), .inl (cI, 6, .inl (V 3).2.2.2.2.1)), ((aw 3), .inl (cI, 6, .inl (V 3).2.2.2.2.2.1)), ((aS 3), .inl (cI, 5, .inl (V 3).2.2.2.2.2.2.1)), ((au 3), .inl (cI, 5, .inl (V 3).2.2.2.2.2.2.2)), ((a 4), .inr (1, [.ref ap, .int (V 4).1, .int (V 4).2.1, .int (V 4).2.2.1, .int (V 4).2.2.2.1, .ref (ah 4), .ref (aw 4), .ref (aS 4), .ref (au 4)])), ((ah 4), .inl (cI, 6, .inl (V 4).2.2.2.2.1)), ((aw 4), .inl (cI, 6, .inl (V 4).2.2.2.2.2.1)), ((aS 4), .inl (cI, 5, .inl (V 4).2.2.2.2.2.2.1)), ((au 4), .inl (cI, 5, .inl (V 4).2.2.2.2.2.2.2)), ((a 5), .inr (1, [.ref ap, .int (V 5).1, .int (V 5).2.1, .int (V 5).2.2.1, .int (V 5).2.2.2.1, .ref (ah 5), .ref (aw 5), .ref (aS 5), .ref (au 5)])), ((ah 5), .inl (cI, 6, .inl (V 5).2.2.2.2.1)), ((aw 5), .inl (cI, 6, .inl (V 5).2.2.2.2.2.1)), ((aS 5), .inl (cI, 5, .inl (V 5).2.2.2.2.2.2.1)), ((au 5), .inl (cI, 5, .inl (V 5).2.2.2.2.2.2.2)), ((a 6), .inr (1, [.ref ap, .int (V 6).1, .int (V 6).2.1, .int (V 6).2.2.1, .int (V 6).2.2.2.1, .ref (ah 6), .ref (aw 6), .ref (aS 6), .ref (au 6)])), ((ah 6), .inl (cI, 6, .inl (V 6).2.2.2.2.1)), ((aw 6), .inl (cI, 6, .inl (V 6).2.2.2.2.2.1)), ((aS 6), .inl (cI, 5, .inl (V 6).2.2.2.2.2.2.1)), ((au 6), .inl (cI, 5, .inl (V 6).2.2.2.2.2.2.2)), ((a 7), .inr (1, [.ref ap, .int (V 7).1, .int (V 7).2.1, .int (V 7).2.2.1, .int (V 7).2.2.2.1, .ref (ah 7), .ref (aw 7), .ref (aS 7), .ref (au 7)])), ((ah 7), .inl (cI, 6, .inl (V 7).2.2.2.2.1)), ((aw 7), .inl (cI, 6, .inl (V 7).2.2.2.2.2.1)), ((aS 7), .inl (cI, 5, .inl (V 7).2.2.2.2.2.2.1)), ((au 7), .inl (cI, 5, .inl (V 7).2.2.2.2.2.2.2)), (aq, .inr (1, [.ref ap2, .int (cpM (V (k - 1)) (qgone, qmet, qstill, qdone, qhour, qworn, qsquare, qunder)).1, .int (cpM (V (k - 1)) (qgone, qmet, qstill, qdone, qhour, qworn, qsquare, qunder)).2.1, .int (cpM (V (k - 1)) (qgone, qmet, qstill, qdone, qhour, qworn, qsquare, qunder)).2.2.1, .int (cpM (V (k - 1)) (qgone, qmet, qstill, qdone, qhour, qworn, qsquare, qunder)).2.2.2.1, .ref aqh, .ref aqw, .ref aqs, .ref aqu])), (aqh, .inl (cI, 6, .inl (cpM (V (k - 1)) (qgone, qmet, qstill, qdone, qhour, qworn, qsquare, qunder)).2.2.2.2.1)), (aqw, .inl (cI, 6, .inl (cpM (V (k - 1)) (qgone, qmet, qstill, qdone, qhour, qworn, qsquare, qunder)).2.2.2.2.2.1)), (aqs, .inl (cI, 5, .inl (cpM (V (k - 1)) (qgone, qmet, qstill, qdone, qhour, qworn, qsquare, qunder)).2.2.2.2.2.2.1)), (aqu, .inl (cI, 5, .inl (cpM (V (k - 1)) (qgone, qmet, qstill, qdone, qhour, qworn, qsquare, qunder)).2.2.2.2.2.2.2))] := by
  obtain ⟨j, rfl⟩ : ∃ j, k = j + 1 := ⟨k - 1, by omega⟩
  exact c_pop8 l D cI cC cM az azr ap a ah aw aS au V aq aqh aqw aqs aqu ap2 qgone qmet qstill qdone qhour qworn qsquare qunder j (by omega)
theorem c_pop2x (l : Launch) (D : va_G) (cI cC cM : ClassId) (az azr ap : Nat) (a ah aw aS au : Nat → Nat) (V : Nat → MVt) (aq aqh aqw aqs aqu ap2 : Nat) (qgone qmet qstill qdone : Int32) (qhour qworn qsquare qunder : Nat → Int32) (k : Nat) (hk0 : 0 < k) (hk : k ≤ 2) : CV l D cI cC cM yX4_popInto wsX4_popInto rm_pop8 [.ref az, .ref aq] [(az, .inr (4, [.ref azr, .int (nI k)])), (azr, .inl (cM, 2, .inr (.inr (.inr (.inr (mq2 a)))))), ((a 0), .inr (1, [.ref ap, .int (V 0).1, .int (V 0).2.1, .int (V 0).2.2.1, .int (V 0).2.2.2.1, .ref (ah 0), .ref (aw 0), .ref (aS 0), .ref (au 0)])), ((ah 0), .inl (cI, 6, .inl (V 0).2.2.2.2.1)), ((aw 0), .inl (cI, 6, .inl (V 0).2.2.2.2.2.1)), ((aS 0), .inl (cI, 5, .inl (V 0).2.2.2.2.2.2.1)), ((au 0), .inl (cI, 5, .inl (V 0).2.2.2.2.2.2.2)), ((a 1), .inr (1, [.ref ap, .int (V 1).1, .int (V 1).2.1, .int (V 1).2.2.1, .int (V 1).2.2.2.1, .ref (ah 1), .ref (aw 1), .ref (aS 1), .ref (au 1)])), ((ah 1), .inl (cI, 6, .inl (V 1).2.2.2.2.1)), ((aw 1), .inl (cI, 6, .inl (V 1).2.2.2.2.2.1)), ((aS 1), .inl (cI, 5, .inl (V 1).2.2.2.2.2.2.1)), ((au 1), .inl (cI, 5, .inl (V 1).2.2.2.2.2.2.2)), (aq, .inr (1, [.ref ap2, .int qgone, .int qmet, .int qstill, .int qdone, .ref aqh, .ref aqw, .ref aqs, .ref aqu])), (aqh, .inl (cI, 6, .inl qhour)), (aqw, .inl (cI, 6, .inl qworn)), (aqs, .inl (cI, 5, .inl qsquare)), (aqu, .inl (cI, 5, .inl qunder))] [(az, .inr (4, [.ref azr, .int (nI (k - 1))])), (azr, .inl (cM, 2, .inr (.inr (.inr (.inr (mq2 a)))))), ((a 0), .inr (1, [.ref ap, .int (V 0).1, .int (V 0).2.1, .int (V 0).2.2.1, .int (V 0).2.2.2.1, .ref (ah 0), .ref (aw 0), .ref (aS 0), .ref (au 0)])), ((ah 0), .inl (cI, 6, .inl (V 0).2.2.2.2.1)), ((aw 0), .inl (cI, 6, .inl (V 0).2.2.2.2.2.1)), ((aS 0), .inl (cI, 5, .inl (V 0).2.2.2.2.2.2.1)), ((au 0), .inl (cI, 5, .inl (V 0).2.2.2.2.2.2.2)), ((a 1), .inr (1, [.ref ap, .int (V 1).1, .int (V 1).2.1, .int (V 1).2.2.1, .int (V 1).2.2.2.1, .ref (ah 1), .ref (aw 1), .ref (aS 1), .ref (au 1)])), ((ah 1), .inl (cI, 6, .inl (V 1).2.2.2.2.1)), ((aw 1), .inl (cI, 6, .inl (V 1).2.2.2.2.2.1)), ((aS 1), .inl (cI, 5, .inl (V 1).2.2.2.2.2.2.1)), ((au 1), .inl (cI, 5, .inl (V 1).2.2.2.2.2.2.2)), (aq, .inr (1, [.ref ap2, .int (cpM (V (k - 1)) (qgone, qmet, qstill, qdone, qhour, qworn, qsquare, qunder)).1, .int (cpM (V (k - 1)) (qgone, qmet, qstill, qdone, qhour, qworn, qsquare, qunder)).2.1, .int (cpM (V (k - 1)) (qgone, qmet, qstill, qdone, qhour, qworn, qsquare, qunder)).2.2.1, .int (cpM (V (k - 1)) (qgone, qmet, qstill, qdone, qhour, qworn, qsquare, qunder)).2.2.2.1, .ref aqh, .ref aqw, .ref aqs, .ref aqu])), (aqh, .inl (cI, 6, .inl (cpM (V (k - 1)) (qgone, qmet, qstill, qdone, qhour, qworn, qsquare, qunder)).2.2.2.2.1)), (aqw, .inl (cI, 6, .inl (cpM (V (k - 1)) (qgone, qmet, qstill, qdone, qhour, qworn, qsquare, qunder)).2.2.2.2.2.1)), (aqs, .inl (cI, 5, .inl (cpM (V (k - 1)) (qgone, qmet, qstill, qdone, qhour, qworn, qsquare, qunder)).2.2.2.2.2.2.1)), (aqu, .inl (cI, 5, .inl (cpM (V (k - 1)) (qgone, qmet, qstill, qdone, qhour, qworn, qsquare, qunder)).2.2.2.2.2.2.2))] := by
  obtain ⟨j, rfl⟩ : ∃ j, k = j + 1 := ⟨k - 1, by omega⟩
  exact c_pop2 l D cI cC cM az azr ap a ah aw aS au V aq aqh aqw aqs aqu ap2 qgone qmet qstill qdone qhour qworn qsquare qunder j (by omega)
abbrev QID (D : va_G) (ws' : va_W) (r : Int32) (A : Nat → Prop) : Array Value → State → Outcome → State → Prop := va_Qi (fun (x : Int32) (_ : Unit) => x = r) (fun _ t => va_P D vwCl ws' t.heap ∧ va_D A ws') A
def CID (l : Launch) (D : va_G) (cI cC cM : ClassId) (y : MethodName) (wy : List Cond) (rm : Room) (av : List Value) (ws ws' : va_W) (r : Int32) : Prop := ∀ sz : Nat, Met l y wy rm (va_Pc av (PW D cI cC cM ws sz)) (QID D ws' r (va_A ws sz)) 0 0 (va_A ws sz)
theorem CID.of {l : Launch} {D : va_G} {cI cC cM : ClassId} {y : MethodName} {wy wy' : List Cond} {rm : Room} {av : List Value} {ws ws' : va_W} {cc : ByteArray} {nL : Nat} {ret : Option FieldType} {r : Int32} (hy : plainName y.cls = true) (hw : wy = Cond.code y cc nL ret :: wy') (hlen : (lg_sl av).length ≤ nL)
    (body : ∀ p e s m args below meth c A, Ctx p s m args meth c D cI cC cM A y.cls cc nL ret wy → va_P D vwCl ws s.heap → va_D A ws → va_S A s.heap s.heap [] → ∀ ls, lv_has ls nL (lv_args 0 av) → W p l e rm s m args below meth c s.heap [] 0 0 (MQ below (QID D ws' r A) args s 0 0 A) (F0 m 0 ls [])) : CID l D cI cC cM y wy rm av ws ws' r := fun sz => body_of (Qc := QID D ws' r) (sz := sz) hy hw hlen body
theorem xrid {p : Program} {l : Launch} {e : Env} {R : Room} {s : State} {m : MethodId} {args : Array Value} {below : List Frame} {meth : Method} {c : Code} {H : Heap} {locs : List Loc} {cells slots : Nat} {D : va_G} {cI cC cM : ClassId} {A : Nat → Prop} {own : String} {cc : ByteArray} {nL : Nat} {Ts : List Cond} {ws' : va_W} {pc : Nat} {ls : Array Slot} {r : Int32}
    (hC : Ctx p s m args meth c D cI cC cM A own cc nL (some .int) Ts) (hP : va_P D vwCl ws' H) (hD : va_D A ws') (hS : va_S A s.heap H locs) (hdg : decode cc pc = .ok (.ireturn, 1)) : W p l e R s m args below meth c H locs cells slots (MQ below (QID D ws' r A) args s cells slots A) (F0 m pc ls [.int r]) :=
  W.iret hC.1 hC.2.1 hC.2.2.2.2.2.1 (fun t ht hW => ⟨⟨r, (), rfl, rfl, by show va_P D vwCl ws' t.heap ∧ va_D A ws'; rw [ht]; exact ⟨hP, hD⟩⟩, hS.F ht⟩) hS.2.2 hdg hC.2.2.2.2.2.2.1
section ZROWS
variable {p : Program} {l : Launch} {e : Env} {R : Room} {s : State} {m : MethodId} {args : Array Value} {below : List Frame} {meth : Method} {c : Code} {H : Heap} {locs : List Loc} {cells slots : Nat} {Q : State → Prop}
variable {D : va_G} {cI cC cM : ClassId} {A : Nat → Prop} {own C host : String} {cc bytes : ByteArray} {nL maxL n index : Nat} {mret ret : Option FieldType} {Ts : List Cond} {y : MethodName} {wy : List Cond} {rm : Room} {ws wc wc' ws' wr : va_W} {b pc : Nat} {As rest st : List Value} {ls : Array Slot} {r : Int32} {ro : Option Nat}
theorem va_D.adr {w w' : va_W} (hD : va_D A w) (h : w'.map (fun q => q.1) = w.map (fun q => q.1)) : va_D A w' := by
  have key : ∀ (k : Nat) (q : Nat × va_E), w'[k]? = some q → ∃ q0, w[k]? = some q0 ∧ q0.1 = q.1 := by
    intro k q hk
    have h1 : (w'.map (fun q => q.1))[k]? = (w.map (fun q => q.1))[k]? := by rw [h]
    rw [List.getElem?_map, List.getElem?_map, hk] at h1
    cases hw : w[k]? with
    | none => rw [hw] at h1; cases h1
    | some v => rw [hw] at h1; exact ⟨v, rfl, (Option.some.inj h1).symm⟩
  refine ⟨fun i j x z hi hj hxz => ?_, fun k q hk => ?_⟩
  · obtain ⟨x0, a1, a2⟩ := key i x hi
    obtain ⟨z0, b1, b2⟩ := key j z hj
    exact hD.1 i j x0 z0 a1 b1 (by rw [a2, b2]; exact hxz)
  · obtain ⟨q0, a1, a2⟩ := key k q hk
    rw [← a2]
    exact hD.2 k q0 a1
/-- places of a world: those of the callee's, and the rest; the rest is as it was -/
def zplaces (isC isR : List Nat) (n : Nat) : Bool := (List.range n).all (fun k => (isC ++ isR).elem k) && isR.all (fun k => !isC.elem k) && va_nd isC
theorem zjoin {cl : List vw_C} {H1 : Heap} (hP : va_P D cl ws H) (hD : va_D A ws) (isC isR : List Nat) (nW : Nat) (hz : zplaces isC isR nW = true) (hnW : ws'.length = nW) (hC : isC.map (fun i => ws[i]?) = wc.map some) (hC2 : isC.map (fun i => ws'[i]?) = wc'.map some) (hR1 : isR.map (fun i => ws[i]?) = wr.map some) (hR2 : isR.map (fun i => ws'[i]?) = wr.map some)
    (hk : ∀ q : Nat, q < H.size → ¬ va_A wc H.size q → H1[q]? = H[q]?) (hF : ∀ q, va_A wc H.size q → A q) (hP1 : va_P D cl wc' H1) (hD1 : va_D (va_A wc H.size) wc') : va_P D cl ws' H1 ∧ va_D A ws' := by
  have hz' := hz
  unfold zplaces at hz'
  rw [Bool.and_eq_true, Bool.and_eq_true] at hz'
  obtain ⟨⟨z1, z2⟩, z3⟩ := hz'
  have atC : ∀ (j k : Nat), isC[j]? = some k → wc[j]? = ws[k]? := by
    intro j k h
    have h1 : (isC.map (fun i => ws[i]?))[j]? = (wc.map some)[j]? := by rw [hC]
    rw [List.getElem?_map, List.getElem?_map, h] at h1
    cases hw : wc[j]? with
    | none => rw [hw] at h1; cases h1
    | some v => rw [hw] at h1; exact (Option.some.inj h1).symm
  have atC2 : ∀ (j k : Nat), isC[j]? = some k → wc'[j]? = ws'[k]? := by
    intro j k h
    have h1 : (isC.map (fun i => ws'[i]?))[j]? = (wc'.map some)[j]? := by rw [hC2]
    rw [List.getElem?_map, List.getElem?_map, h] at h1
    cases hw : wc'[j]? with
    | none => rw [hw] at h1; cases h1
    | some v => rw [hw] at h1; exact (Option.some.inj h1).symm
  have atR : ∀ k : Nat, k ∈ isR → ws'[k]? = ws[k]? := by
    intro k hk
    obtain ⟨j, hj⟩ := List.getElem?_of_mem hk
    have h1 : (isR.map (fun i => ws'[i]?))[j]? = (isR.map (fun i => ws[i]?))[j]? := by rw [hR1, hR2]
    rw [List.getElem?_map, List.getElem?_map, hj] at h1
    exact Option.some.inj h1
  have hlc : isC.length = wc.length := by have := congrArg List.length hC; simpa using this
  have part : ∀ (k : Nat) (q : Nat × va_E), ws'[k]? = some q → (∃ j : Nat, isC[j]? = some k ∧ wc'[j]? = some q) ∨ (k ∉ isC ∧ ws[k]? = some q) := by
    intro k q h
    have hkl : k < nW := by rw [← hnW]; exact (List.getElem?_eq_some_iff.mp h).1
    have hm := List.all_eq_true.mp z1 k (List.mem_range.mpr hkl)
    rw [List.elem_eq_mem, decide_eq_true_eq] at hm
    rcases List.mem_append.mp hm with hm | hm
    · obtain ⟨j, hj⟩ := List.getElem?_of_mem hm
      exact Or.inl ⟨j, hj, by rw [atC2 j k hj]; exact h⟩
    · refine Or.inr ⟨fun q1 => ?_, by rw [← atR k hm]; exact h⟩
      have h2 := List.all_eq_true.mp z2 k hm
      rw [List.elem_eq_mem] at h2
      simp [q1] at h2
  have apart : ∀ (k : Nat) (q : Nat × va_E), k ∉ isC → ws[k]? = some q → q.1 < H.size ∧ ¬ va_A wc H.size q.1 := by
    intro k q h1 h2
    have hlt := (hP k q h2).lt
    refine ⟨hlt, fun hA => ?_⟩
    rcases hA with ⟨j, e, h3⟩ | h3
    · have hjl : j < isC.length := by rw [hlc]; exact (List.getElem?_eq_some_iff.mp h3).1
      have h5 : isC[j]? = some isC[j] := List.getElem?_eq_getElem hjl
      have h4 := atC j _ h5
      rw [h3] at h4
      have hkk := hD.1 k _ q (q.1, e) h2 h4.symm rfl
      exact h1 (by rw [hkk]; exact List.getElem_mem hjl)
    · omega
  refine ⟨fun k q h => ?_, fun i j x z hi hj hxz => ?_, fun k q h => ?_⟩
  · rcases part k q h with ⟨j, h1, h2⟩ | ⟨h1, h2⟩
    · exact hP1 j q h2
    · obtain ⟨g1, g2⟩ := apart k q h1 h2
      exact (hP k q h2).kept (hk q.1 g1 g2)
  · rcases part i x hi with ⟨a, a1, a2⟩ | ⟨a1, a2⟩ <;> rcases part j z hj with ⟨b, b1, b2⟩ | ⟨b1, b2⟩
    · have hab := hD1.1 a b x z a2 b2 hxz
      subst hab
      rw [a1] at b1
      exact Option.some.inj b1
    · exact absurd (hD1.2 a x a2) (by rw [hxz]; exact (apart j z b1 b2).2)
    · exact absurd (hD1.2 b z b2) (by rw [← hxz]; exact (apart i x a1 a2).2)
    · exact hD.1 i j x z a2 b2 hxz
  · rcases part k q h with ⟨j, h1, h2⟩ | ⟨h1, h2⟩
    · exact hF q.1 (hD1.2 j q h2)
    · exact hD.2 k q h2
theorem zself {isC isR : List Nat} {n : Nat} (hD : va_D A ws) (hz : zplaces isC isR n = true) (hC : isC.map (fun i => ws[i]?) = wc.map some) (hadr : wc'.map (fun q => q.1) = wc.map (fun q => q.1)) : va_D (va_A wc H.size) wc' := by
  unfold zplaces at hz
  rw [Bool.and_eq_true] at hz
  exact ((hD.sub isC hz.2 hC).self).adr hadr
theorem znd {isC isR : List Nat} {n : Nat} (hz : zplaces isC isR n = true) : va_nd isC = true := by
  unfold zplaces at hz
  rw [Bool.and_eq_true] at hz
  exact hz.2
theorem zafter_i {st0 : List Value} {a : Array Value} (hr : va_Run p l e R s m args below meth c H locs cells slots 0 0 (F0 m pc ls st0) rest (QI D wc' r (va_A wc H.size) a) (va_A wc H.size)) (hP : va_P D vwCl ws H) (hD : va_D A ws) (hS : va_S A s.heap H locs) (hA : ∀ q : Nat, s.heap.size ≤ q → A q) (isC isR : List Nat) (nW : Nat) (hz : zplaces isC isR nW = true) (hnW : ws'.length = nW) (hC : isC.map (fun i => ws[i]?) = wc.map some) (hC2 : isC.map (fun i => ws'[i]?) = wc'.map some) (hR1 : isR.map (fun i => ws[i]?) = wr.map some) (hR2 : isR.map (fun i => ws'[i]?) = wr.map some) (hadr : wc'.map (fun q => q.1) = wc.map (fun q => q.1)) (kk : ∀ (H1 : Heap) (locs1 : List Loc), va_P D vwCl ws' H1 → va_D A ws' → va_S A s.heap H1 locs1 → W p l e R s m args below meth c H1 locs1 cells slots Q (F0 m (pc + 3) ls (.int r :: rest))) : W p l e R s m args below meth c H locs cells slots Q (F0 m pc ls st0) := by
  have hFc := va_free (wc := wc) hD hS hA isC hC
  refine va_calli hr hS (fun q _ h => hFc q h) hFc (fun x u t H1 locs1 ht hvm hw hB hz1 hk hS1 => ?_)
  subst hw
  rw [ht] at hB
  obtain ⟨h1, h2⟩ := zjoin hP hD isC isR nW hz hnW hC hC2 hR1 hR2 hk hFc hB (zself hD hz hC hadr)
  exact kk H1 locs1 h1 h2 hS1
theorem zafter_v {st0 : List Value} {a : Array Value} (hr : va_Run p l e R s m args below meth c H locs cells slots 0 0 (F0 m pc ls st0) rest (QV D wc' (va_A wc H.size) a) (va_A wc H.size)) (hP : va_P D vwCl ws H) (hD : va_D A ws) (hS : va_S A s.heap H locs) (hA : ∀ q : Nat, s.heap.size ≤ q → A q) (isC isR : List Nat) (nW : Nat) (hz : zplaces isC isR nW = true) (hnW : ws'.length = nW) (hC : isC.map (fun i => ws[i]?) = wc.map some) (hC2 : isC.map (fun i => ws'[i]?) = wc'.map some) (hR1 : isR.map (fun i => ws[i]?) = wr.map some) (hR2 : isR.map (fun i => ws'[i]?) = wr.map some) (hadr : wc'.map (fun q => q.1) = wc.map (fun q => q.1)) (kk : ∀ (H1 : Heap) (locs1 : List Loc), va_P D vwCl ws' H1 → va_D A ws' → va_S A s.heap H1 locs1 → W p l e R s m args below meth c H1 locs1 cells slots Q (F0 m (pc + 3) ls (rest))) : W p l e R s m args below meth c H locs cells slots Q (F0 m pc ls st0) := by
  have hFc := va_free (wc := wc) hD hS hA isC hC
  refine va_callv hr hS (fun q _ h => hFc q h) hFc (fun u t H1 locs1 ht hvm hw hB hz1 hk hS1 => ?_)
  rw [ht] at hB
  obtain ⟨h1, h2⟩ := zjoin hP hD isC isR nW hz hnW hC hC2 hR1 hR2 hk hFc hB (zself hD hz hC hadr)
  exact kk H1 locs1 h1 h2 hS1
theorem zafter_d {st0 : List Value} {a : Array Value} (hr : va_Run p l e R s m args below meth c H locs cells slots 0 0 (F0 m pc ls st0) rest (QD D wc' (va_A wc H.size) a) (va_A wc H.size)) (hP : va_P D vwCl ws H) (hD : va_D A ws) (hS : va_S A s.heap H locs) (hA : ∀ q : Nat, s.heap.size ≤ q → A q) (isC isR : List Nat) (nW : Nat) (hz : zplaces isC isR nW = true) (hnW : ws'.length = nW) (hC : isC.map (fun i => ws[i]?) = wc.map some) (hC2 : isC.map (fun i => ws'[i]?) = wc'.map some) (hR1 : isR.map (fun i => ws[i]?) = wr.map some) (hR2 : isR.map (fun i => ws'[i]?) = wr.map some) (kk : ∀ (H1 : Heap) (locs1 : List Loc), va_P D vwCl ws' H1 → va_D A ws' → va_S A s.heap H1 locs1 → W p l e R s m args below meth c H1 locs1 cells slots Q (F0 m (pc + 3) ls (rest))) : W p l e R s m args below meth c H locs cells slots Q (F0 m pc ls st0) := by
  have hFc := va_free (wc := wc) hD hS hA isC hC
  refine va_callv hr hS (fun q _ h => hFc q h) hFc (fun u t H1 locs1 ht hvm hw hB hz1 hk hS1 => ?_)
  obtain ⟨hB, hB2⟩ := hB
  rw [ht] at hB
  obtain ⟨h1, h2⟩ := zjoin hP hD isC isR nW hz hnW hC hC2 hR1 hR2 hk hFc hB hB2
  exact kk H1 locs1 h1 h2 hS1
theorem zafter_id {st0 : List Value} {a : Array Value} (hr : va_Run p l e R s m args below meth c H locs cells slots 0 0 (F0 m pc ls st0) rest (QID D wc' r (va_A wc H.size) a) (va_A wc H.size)) (hP : va_P D vwCl ws H) (hD : va_D A ws) (hS : va_S A s.heap H locs) (hA : ∀ q : Nat, s.heap.size ≤ q → A q) (isC isR : List Nat) (nW : Nat) (hz : zplaces isC isR nW = true) (hnW : ws'.length = nW) (hC : isC.map (fun i => ws[i]?) = wc.map some) (hC2 : isC.map (fun i => ws'[i]?) = wc'.map some) (hR1 : isR.map (fun i => ws[i]?) = wr.map some) (hR2 : isR.map (fun i => ws'[i]?) = wr.map some) (kk : ∀ (H1 : Heap) (locs1 : List Loc), va_P D vwCl ws' H1 → va_D A ws' → va_S A s.heap H1 locs1 → W p l e R s m args below meth c H1 locs1 cells slots Q (F0 m (pc + 3) ls (.int r :: rest))) : W p l e R s m args below meth c H locs cells slots Q (F0 m pc ls st0) := by
  have hFc := va_free (wc := wc) hD hS hA isC hC
  refine va_calli hr hS (fun q _ h => hFc q h) hFc (fun x u t H1 locs1 ht hvm hw hB hz1 hk hS1 => ?_)
  subst hw
  obtain ⟨hB, hB2⟩ := hB
  rw [ht] at hB
  obtain ⟨h1, h2⟩ := zjoin hP hD isC isR nW hz hnW hC hC2 hR1 hR2 hk hFc hB hB2
  exact kk H1 locs1 h1 h2 hS1
theorem zVi (hC : Ctx p s m args meth c D cI cC cM A own cc nL mret Ts) (hP : va_P D vwCl ws H) (hD : va_D A ws) (hS : va_S A s.heap H locs) (isC isR : List Nat) (hM : CI l D cI cC cM y wy rm (.ref b :: As) wc wc' r) (cw : CallW R s args own C index y bytes maxL ret wy rm 0 0 n) (nW : Nat) (hz : zplaces isC isR nW = true) (hnW : ws'.length = nW) (hCc : isC.map (fun i => ws[i]?) = wc.map some) (hC2 : isC.map (fun i => ws'[i]?) = wc'.map some) (hR1 : isR.map (fun i => ws[i]?) = wr.map some) (hR2 : isR.map (fun i => ws'[i]?) = wr.map some) (hadr : wc'.map (fun q => q.1) = wc.map (fun q => q.1)) (k0 ci : Nat) {q : vw_C} {fs : List Value} (hrec : ws[k0]? = some (b, .inr (ci, fs))) (hq : vwCl[ci]? = some q) (hqc : q.1 = C) (hn : As.length = n) (hsize : ls.size = nL) (hst : st = As.reverse ++ .ref b :: rest) (hW : (rest.map fun v => v.category).sum ≤ 8) (hdg : decode cc pc = .ok (.invokevirtual index, 3)) (hf : cells ≤ R.cells ∧ slots ≤ R.slots) (kk : ∀ (H1 : Heap) (locs1 : List Loc), va_P D vwCl ws' H1 → va_D A ws' → va_S A s.heap H1 locs1 → W p l e R s m args below meth c H1 locs1 cells slots Q (F0 m (pc + 3) ls (.int r :: rest))) : W p l e R s m args below meth c H locs cells slots Q (F0 m pc ls st) :=
  zafter_i (va_runV hC.fix (hM H.size) cw ⟨PW.blind, by rw [← hqc]; exact va_recv hC.gk.1 hP hq hrec, pw_in hC.gk hP hD isC (znd hz) hCc _⟩ rfl hn hsize hst (lv_room hW) hdg hf) hP hD hS hC.hA isC isR nW hz hnW hCc hC2 hR1 hR2 hadr kk
theorem zVv (hC : Ctx p s m args meth c D cI cC cM A own cc nL mret Ts) (hP : va_P D vwCl ws H) (hD : va_D A ws) (hS : va_S A s.heap H locs) (isC isR : List Nat) (hM : CV l D cI cC cM y wy rm (.ref b :: As) wc wc') (cw : CallW R s args own C index y bytes maxL ret wy rm 0 0 n) (nW : Nat) (hz : zplaces isC isR nW = true) (hnW : ws'.length = nW) (hCc : isC.map (fun i => ws[i]?) = wc.map some) (hC2 : isC.map (fun i => ws'[i]?) = wc'.map some) (hR1 : isR.map (fun i => ws[i]?) = wr.map some) (hR2 : isR.map (fun i => ws'[i]?) = wr.map some) (hadr : wc'.map (fun q => q.1) = wc.map (fun q => q.1)) (k0 ci : Nat) {q : vw_C} {fs : List Value} (hrec : ws[k0]? = some (b, .inr (ci, fs))) (hq : vwCl[ci]? = some q) (hqc : q.1 = C) (hn : As.length = n) (hsize : ls.size = nL) (hst : st = As.reverse ++ .ref b :: rest) (hW : (rest.map fun v => v.category).sum ≤ 8) (hdg : decode cc pc = .ok (.invokevirtual index, 3)) (hf : cells ≤ R.cells ∧ slots ≤ R.slots) (kk : ∀ (H1 : Heap) (locs1 : List Loc), va_P D vwCl ws' H1 → va_D A ws' → va_S A s.heap H1 locs1 → W p l e R s m args below meth c H1 locs1 cells slots Q (F0 m (pc + 3) ls (rest))) : W p l e R s m args below meth c H locs cells slots Q (F0 m pc ls st) :=
  zafter_v (va_runV hC.fix (hM H.size) cw ⟨PW.blind, by rw [← hqc]; exact va_recv hC.gk.1 hP hq hrec, pw_in hC.gk hP hD isC (znd hz) hCc _⟩ rfl hn hsize hst (lv_room hW) hdg hf) hP hD hS hC.hA isC isR nW hz hnW hCc hC2 hR1 hR2 hadr kk
theorem zVd (hC : Ctx p s m args meth c D cI cC cM A own cc nL mret Ts) (hP : va_P D vwCl ws H) (hD : va_D A ws) (hS : va_S A s.heap H locs) (isC isR : List Nat) (hM : CD l D cI cC cM y wy rm (.ref b :: As) wc wc') (cw : CallW R s args own C index y bytes maxL ret wy rm 0 0 n) (nW : Nat) (hz : zplaces isC isR nW = true) (hnW : ws'.length = nW) (hCc : isC.map (fun i => ws[i]?) = wc.map some) (hC2 : isC.map (fun i => ws'[i]?) = wc'.map some) (hR1 : isR.map (fun i => ws[i]?) = wr.map some) (hR2 : isR.map (fun i => ws'[i]?) = wr.map some) (k0 ci : Nat) {q : vw_C} {fs : List Value} (hrec : ws[k0]? = some (b, .inr (ci, fs))) (hq : vwCl[ci]? = some q) (hqc : q.1 = C) (hn : As.length = n) (hsize : ls.size = nL) (hst : st = As.reverse ++ .ref b :: rest) (hW : (rest.map fun v => v.category).sum ≤ 8) (hdg : decode cc pc = .ok (.invokevirtual index, 3)) (hf : cells ≤ R.cells ∧ slots ≤ R.slots) (kk : ∀ (H1 : Heap) (locs1 : List Loc), va_P D vwCl ws' H1 → va_D A ws' → va_S A s.heap H1 locs1 → W p l e R s m args below meth c H1 locs1 cells slots Q (F0 m (pc + 3) ls (rest))) : W p l e R s m args below meth c H locs cells slots Q (F0 m pc ls st) :=
  zafter_d (va_runV hC.fix (hM H.size) cw ⟨PW.blind, by rw [← hqc]; exact va_recv hC.gk.1 hP hq hrec, pw_in hC.gk hP hD isC (znd hz) hCc _⟩ rfl hn hsize hst (lv_room hW) hdg hf) hP hD hS hC.hA isC isR nW hz hnW hCc hC2 hR1 hR2 kk
theorem zVid (hC : Ctx p s m args meth c D cI cC cM A own cc nL mret Ts) (hP : va_P D vwCl ws H) (hD : va_D A ws) (hS : va_S A s.heap H locs) (isC isR : List Nat) (hM : CID l D cI cC cM y wy rm (.ref b :: As) wc wc' r) (cw : CallW R s args own C index y bytes maxL ret wy rm 0 0 n) (nW : Nat) (hz : zplaces isC isR nW = true) (hnW : ws'.length = nW) (hCc : isC.map (fun i => ws[i]?) = wc.map some) (hC2 : isC.map (fun i => ws'[i]?) = wc'.map some) (hR1 : isR.map (fun i => ws[i]?) = wr.map some) (hR2 : isR.map (fun i => ws'[i]?) = wr.map some) (k0 ci : Nat) {q : vw_C} {fs : List Value} (hrec : ws[k0]? = some (b, .inr (ci, fs))) (hq : vwCl[ci]? = some q) (hqc : q.1 = C) (hn : As.length = n) (hsize : ls.size = nL) (hst : st = As.reverse ++ .ref b :: rest) (hW : (rest.map fun v => v.category).sum ≤ 8) (hdg : decode cc pc = .ok (.invokevirtual index, 3)) (hf : cells ≤ R.cells ∧ slots ≤ R.slots) (kk : ∀ (H1 : Heap) (locs1 : List Loc), va_P D vwCl ws' H1 → va_D A ws' → va_S A s.heap H1 locs1 → W p l e R s m args below meth c H1 locs1 cells slots Q (F0 m (pc + 3) ls (.int r :: rest))) : W p l e R s m args below meth c H locs cells slots Q (F0 m pc ls st) :=
  zafter_id (va_runV hC.fix (hM H.size) cw ⟨PW.blind, by rw [← hqc]; exact va_recv hC.gk.1 hP hq hrec, pw_in hC.gk hP hD isC (znd hz) hCc _⟩ rfl hn hsize hst (lv_room hW) hdg hf) hP hD hS hC.hA isC isR nW hz hnW hCc hC2 hR1 hR2 kk
theorem zNv (hC : Ctx p s m args meth c D cI cC cM A own cc nL mret Ts) (hP : va_P D vwCl ws H) (hD : va_D A ws) (hS : va_S A s.heap H locs) (isC isR : List Nat) (hM : CV l D cI cC cM y wy rm As wc wc') (cw : va_CN R s args own index y host bytes maxL ret wy rm 0 0 n ∧ (Cond.static y).before args s = true ∧ True) (nW : Nat) (hz : zplaces isC isR nW = true) (hnW : ws'.length = nW) (hCc : isC.map (fun i => ws[i]?) = wc.map some) (hC2 : isC.map (fun i => ws'[i]?) = wc'.map some) (hR1 : isR.map (fun i => ws[i]?) = wr.map some) (hR2 : isR.map (fun i => ws'[i]?) = wr.map some) (hadr : wc'.map (fun q => q.1) = wc.map (fun q => q.1)) (hn : As.length = n) (hsize : ls.size = nL) (hst : st = As.reverse ++ rest) (hW : (rest.map fun v => v.category).sum ≤ 8) (hdg : decode cc pc = .ok (.invokestatic index, 3)) (hf : cells ≤ R.cells ∧ slots ≤ R.slots) (kk : ∀ (H1 : Heap) (locs1 : List Loc), va_P D vwCl ws' H1 → va_D A ws' → va_S A s.heap H1 locs1 → W p l e R s m args below meth c H1 locs1 cells slots Q (F0 m (pc + 3) ls (rest))) : W p l e R s m args below meth c H locs cells slots Q (F0 m pc ls st) :=
  zafter_v (va_runSN hC.fix (hM H.size) cw ⟨PW.blind, pw_in hC.gk hP hD isC (znd hz) hCc _⟩ rfl hn hsize hst (lv_room hW) hdg hf) hP hD hS hC.hA isC isR nW hz hnW hCc hC2 hR1 hR2 hadr kk
theorem zSi (hC : Ctx p s m args meth c D cI cC cM A own cc nL mret Ts) (hP : va_P D vwCl ws H) (hD : va_D A ws) (hS : va_S A s.heap H locs) (isC isR : List Nat) (hM : CI l D cI cC cM y wy rm As wc wc' r) (cw : CallB R s args own index y bytes maxL ret wy rm 0 0 n ∧ (Cond.static y).before args s = true) (nW : Nat) (hz : zplaces isC isR nW = true) (hnW : ws'.length = nW) (hCc : isC.map (fun i => ws[i]?) = wc.map some) (hC2 : isC.map (fun i => ws'[i]?) = wc'.map some) (hR1 : isR.map (fun i => ws[i]?) = wr.map some) (hR2 : isR.map (fun i => ws'[i]?) = wr.map some) (hadr : wc'.map (fun q => q.1) = wc.map (fun q => q.1)) (hn : As.length = n) (hsize : ls.size = nL) (hst : st = As.reverse ++ rest) (hW : (rest.map fun v => v.category).sum ≤ 8) (hdg : decode cc pc = .ok (.invokestatic index, 3)) (hf : cells ≤ R.cells ∧ slots ≤ R.slots) (kk : ∀ (H1 : Heap) (locs1 : List Loc), va_P D vwCl ws' H1 → va_D A ws' → va_S A s.heap H1 locs1 → W p l e R s m args below meth c H1 locs1 cells slots Q (F0 m (pc + 3) ls (.int r :: rest))) : W p l e R s m args below meth c H locs cells slots Q (F0 m pc ls st) :=
  zafter_i (va_runS hC.fix (hM H.size) cw ⟨PW.blind, pw_in hC.gk hP hD isC (znd hz) hCc _⟩ rfl hn hsize hst (lv_room hW) hdg hf) hP hD hS hC.hA isC isR nW hz hnW hCc hC2 hR1 hR2 hadr kk
theorem zSv (hC : Ctx p s m args meth c D cI cC cM A own cc nL mret Ts) (hP : va_P D vwCl ws H) (hD : va_D A ws) (hS : va_S A s.heap H locs) (isC isR : List Nat) (hM : CV l D cI cC cM y wy rm As wc wc') (cw : CallB R s args own index y bytes maxL ret wy rm 0 0 n ∧ (Cond.static y).before args s = true) (nW : Nat) (hz : zplaces isC isR nW = true) (hnW : ws'.length = nW) (hCc : isC.map (fun i => ws[i]?) = wc.map some) (hC2 : isC.map (fun i => ws'[i]?) = wc'.map some) (hR1 : isR.map (fun i => ws[i]?) = wr.map some) (hR2 : isR.map (fun i => ws'[i]?) = wr.map some) (hadr : wc'.map (fun q => q.1) = wc.map (fun q => q.1)) (hn : As.length = n) (hsize : ls.size = nL) (hst : st = As.reverse ++ rest) (hW : (rest.map fun v => v.category).sum ≤ 8) (hdg : decode cc pc = .ok (.invokestatic index, 3)) (hf : cells ≤ R.cells ∧ slots ≤ R.slots) (kk : ∀ (H1 : Heap) (locs1 : List Loc), va_P D vwCl ws' H1 → va_D A ws' → va_S A s.heap H1 locs1 → W p l e R s m args below meth c H1 locs1 cells slots Q (F0 m (pc + 3) ls (rest))) : W p l e R s m args below meth c H locs cells slots Q (F0 m pc ls st) :=
  zafter_v (va_runS hC.fix (hM H.size) cw ⟨PW.blind, pw_in hC.gk hP hD isC (znd hz) hCc _⟩ rfl hn hsize hst (lv_room hW) hdg hf) hP hD hS hC.hA isC isR nW hz hnW hCc hC2 hR1 hR2 hadr kk
end ZROWS
def f_X7_write (ylen : Int32) (ylet : (Nat → Int32)) (i : Int32) : Option (Int32 × Int32 × (Nat → Int32)) := (if i < (32 : Int32) then (some ((-1 : Int32), ylen, ylet)) else (if i ≤ (126 : Int32) then (Option.bind (f_X6_isFull ylen) fun r3 => (if r3 = 0 then (Option.bind (f_X6_append ylen ylet (ji2c i)) fun (ylen_6, ylet_7) => (some (ylen_6, ylen_6, ylet_7))) else (some ((-3 : Int32), ylen, ylet)))) else (some ((-1 : Int32), ylen, ylet))))

def rm_X7_write : Room := { frames := 1, cells := 0, slots := 0, locals := 21 }

theorem pd_X7_write : yX7_write.cls ≠ "java/lang/invoke/MethodHandle" ∧ yX7_write.cls ≠ "java/lang/invoke/VarHandle" ∧ (parseMethodDescriptor yX7_write.desc).map (fun d => d.parameters.length) = some 1 := by decide +kernel

set_option maxHeartbeats 4000000 in
set_option maxRecDepth 100000 in
theorem c_X7_write (l : Launch) (D : va_G) (cI cC cM : ClassId) (ax ay ayl ar ap aq aj az ak ae ad : Nat) (ylen : Int32) (ylet : (Nat → Int32)) (i : Int32) (rr : Int32) (ylen' : Int32) (ylet' : (Nat → Int32)) (hF : f_X7_write ylen ylet i = some (rr, ylen', ylet')) : CI l D cI cC cM yX7_write wsX7_write rm_X7_write [.ref ax, .int i] [(ax, .inr (7, [.ref ay, .ref ar, .ref ap, .ref aq, .ref aj, .ref az, .ref ak, .ref ae, .ref ad])), (ay, .inr (6, [.ref ayl, .int ylen])), (ayl, .inl (cC, 200, .inl ylet))] [(ax, .inr (7, [.ref ay, .ref ar, .ref ap, .ref aq, .ref aj, .ref az, .ref ak, .ref ae, .ref ad])), (ay, .inr (6, [.ref ayl, .int ylen'])), (ayl, .inl (cC, 200, .inl ylet'))] rr := by
  refine CI.of (cc := cX7_write) (nL := 2) (ret := (some .int)) (by decide) rfl (Nat.le_of_ble_eq_true rfl) ?_
  intro p e s m args below meth c A hC hP hD hS ls hl
  obtain ⟨hx, hb, hml, hown, hts, hr, hlk, hG, hA⟩ := id hC
  have hown : s.vm.findClass RX7 = some m.cls := hown
  have hK := hG.1
  have hl : lv_has ls 2 [(0, .ref ax), (1, .int i)] := hl
  have k_f10 := hts (.fieldLink RX7 10 "ParasolHours" "text" "LParasolHours$Text;") (List.mem_of_getElem? (i := 1) rfl)
  have k_f98 := hts (.fieldLink RX7 98 "ParasolHours$Text" "length" "I") (List.mem_of_getElem? (i := 2) rfl)
  have iX6 : ∀ w ∈ wsX60, w ∈ wsX7_write := by decide +kernel
  have iX7 : ∀ w ∈ wsX70, w ∈ wsX7_write := by decide +kernel
  obtain ⟨Q, hQ⟩ : ∃ Q, Q = MQ below (QI D [(ax, .inr (7, [.ref ay, .ref ar, .ref ap, .ref aq, .ref aj, .ref az, .ref ak, .ref ae, .ref ad])), (ay, .inr (6, [.ref ayl, .int ylen'])), (ayl, .inl (cC, 200, .inl ylet'))] rr A) args s 0 0 A := ⟨_, rfl⟩
  rw [← hQ]
  unfold f_X7_write at hF
  refine lv_iload_n hx hb dX7_write_0 rfl (lv_at hl 1 rfl) ?_
  refine lv_bipush (v := (32 : Int32)) hx hb dX7_write_1 (by decide) ?_
  refine lv_icmp_lt (tgt := 12) hx hb dX7_write_3 (by decide) (fun c1 => ?_) (fun c1 => ?_)
  · have hF := op_pos c1 hF
    refine lv_iconst (v := (-1 : Int32)) hx hb dX7_write_12 (by decide) ?_
    cases hF
    rw [hQ]
    exact xri hC hP hS dX7_write_13
  · have hF := op_neg c1 hF
    refine lv_iload_n hx hb dX7_write_6 rfl (lv_at hl 1 rfl) ?_
    refine lv_bipush (v := (126 : Int32)) hx hb dX7_write_7 (by decide) ?_
    refine lv_icmp_le (tgt := 14) hx hb dX7_write_9 (by decide) (fun c2 => ?_) (fun c2 => ?_)
    · have hF := op_pos c2 hF
      refine lv_aload_n hx hb dX7_write_14 rfl (lv_at hl 0 rfl) ?_
      refine va_get (D := D) (ci := 7) (v := .ref ay) (C := RX7) (T := TX7) (N := 9) hx hb hts iX7 hown hK hP 0 rfl rfl 0 (by decide) k_f10 (fun _ h9 => h9) rfl dX7_write_15 ?_
      obtain ⟨r3, hb4, hF⟩ := op_bind hF
      refine xVr (As := []) (rest := []) hC hP hD hS [1, 2] (c_X6_isFull l D cI cC cM ay ayl ylen ylet r3 hb4) (cwV 0 hts gX7_write_X6_isFull rfl rfl rfl ⟨rfl, pd_X6_isFull⟩ ⟨Nat.le_of_ble_eq_true rfl, Nat.le_of_ble_eq_true rfl⟩) rfl rfl 1 6 rfl rfl rfl rfl hl.1 rfl (Nat.le_of_ble_eq_true rfl) dX7_write_18 ⟨Nat.zero_le _, Nat.zero_le _⟩ (fun H locs hP hS => ?_)
      refine lv_if_eq (tgt := 27) hx hb dX7_write_21 (by decide) (fun c5 => ?_) (fun c5 => ?_)
      · have hF := op_pos c5 hF
        refine lv_aload_n hx hb dX7_write_27 rfl (lv_at hl 0 rfl) ?_
        refine va_get (D := D) (ci := 7) (v := .ref ay) (C := RX7) (T := TX7) (N := 9) hx hb hts iX7 hown hK hP 0 rfl rfl 0 (by decide) k_f10 (fun _ h9 => h9) rfl dX7_write_28 ?_
        refine lv_iload_n hx hb dX7_write_31 rfl (lv_at hl 1 rfl) ?_
        refine lv_i2c (v := (ji2c i)) hx hb dX7_write_32 rfl ?_
        obtain ⟨⟨ylen_6, ylet_7⟩, hb8, hF⟩ := op_bind hF
        refine xVv (As := [.int (ji2c i)]) (rest := []) hC hP hD hS [1, 2] (c_X6_append l D cI cC cM ay ayl ylen ylet (ji2c i) ylen_6 ylet_7 hb8) (cwV 1 hts gX7_write_X6_append rfl rfl rfl ⟨rfl, pd_X6_append⟩ ⟨Nat.le_of_ble_eq_true rfl, Nat.le_of_ble_eq_true rfl⟩) rfl rfl rfl 1 6 rfl rfl rfl rfl hl.1 rfl (Nat.le_of_ble_eq_true rfl) dX7_write_33 ⟨Nat.zero_le _, Nat.zero_le _⟩ (fun H locs hP hD hS => ?_)
        have hP : va_P D vwCl [(ax, .inr (7, [.ref ay, .ref ar, .ref ap, .ref aq, .ref aj, .ref az, .ref ak, .ref ae, .ref ad])), (ay, .inr (6, [.ref ayl, .int ylen_6])), (ayl, .inl (cC, 200, .inl ylet_7))] H := hP
        have hD : va_D A [(ax, .inr (7, [.ref ay, .ref ar, .ref ap, .ref aq, .ref aj, .ref az, .ref ak, .ref ae, .ref ad])), (ay, .inr (6, [.ref ayl, .int ylen_6])), (ayl, .inl (cC, 200, .inl ylet_7))] := hD
        refine lv_aload_n hx hb dX7_write_36 rfl (lv_at hl 0 rfl) ?_
        refine va_get (D := D) (ci := 7) (v := .ref ay) (C := RX7) (T := TX7) (N := 9) hx hb hts iX7 hown hK hP 0 rfl rfl 0 (by decide) k_f10 (fun _ h9 => h9) rfl dX7_write_37 ?_
        refine va_get (D := D) (ci := 6) (v := .int ylen_6) (C := RX6) (T := TX6) (N := 2) hx hb hts iX6 hown hK hP 1 rfl rfl 1 (by decide) k_f98 (fun _ h9 => h9) rfl dX7_write_40 ?_
        cases hF
        rw [hQ]
        exact xri hC hP hS dX7_write_43
      · have hF := op_neg c5 hF
        refine lv_bipush (v := (-3 : Int32)) hx hb dX7_write_24 (by decide) ?_
        cases hF
        rw [hQ]
        exact xri hC hP hS dX7_write_26
    · have hF := op_neg c2 hF
      refine lv_iconst (v := (-1 : Int32)) hx hb dX7_write_12 (by decide) ?_
      cases hF
      rw [hQ]
      exact xri hC hP hS dX7_write_13

def f_X7_wipe (ylen : Int32) : Option (Int32 × Int32) := (Option.bind (f_X6_clear) fun ylen_1 => (some (ylen, ylen_1)))

def rm_X7_wipe : Room := { frames := 1, cells := 0, slots := 0, locals := 20 }

theorem pd_X7_wipe : yX7_wipe.cls ≠ "java/lang/invoke/MethodHandle" ∧ yX7_wipe.cls ≠ "java/lang/invoke/VarHandle" ∧ (parseMethodDescriptor yX7_wipe.desc).map (fun d => d.parameters.length) = some 0 := by decide +kernel

set_option maxHeartbeats 4000000 in
set_option maxRecDepth 100000 in
theorem c_X7_wipe (l : Launch) (D : va_G) (cI cC cM : ClassId) (ax ay ayl ar ap aq aj az ak ae ad : Nat) (ylen : Int32) (ylet : (Nat → Int32)) (rr : Int32) (ylen' : Int32) (hF : f_X7_wipe ylen = some (rr, ylen')) : CI l D cI cC cM yX7_wipe wsX7_wipe rm_X7_wipe [.ref ax] [(ax, .inr (7, [.ref ay, .ref ar, .ref ap, .ref aq, .ref aj, .ref az, .ref ak, .ref ae, .ref ad])), (ay, .inr (6, [.ref ayl, .int ylen])), (ayl, .inl (cC, 200, .inl ylet))] [(ax, .inr (7, [.ref ay, .ref ar, .ref ap, .ref aq, .ref aj, .ref az, .ref ak, .ref ae, .ref ad])), (ay, .inr (6, [.ref ayl, .int ylen'])), (ayl, .inl (cC, 200, .inl ylet))] rr := by
  refine CI.of (cc := cX7_wipe) (nL := 2) (ret := (some .int)) (by decide) rfl (Nat.le_of_ble_eq_true rfl) ?_
  intro p e s m args below meth c A hC hP hD hS ls hl
  obtain ⟨hx, hb, hml, hown, hts, hr, hlk, hG, hA⟩ := id hC
  have hown : s.vm.findClass RX7 = some m.cls := hown
  have hK := hG.1
  have hl : lv_has ls 2 [(0, .ref ax)] := hl
  have k_f10 := hts (.fieldLink RX7 10 "ParasolHours" "text" "LParasolHours$Text;") (List.mem_of_getElem? (i := 1) rfl)
  have k_f98 := hts (.fieldLink RX7 98 "ParasolHours$Text" "length" "I") (List.mem_of_getElem? (i := 2) rfl)
  have iX6 : ∀ w ∈ wsX60, w ∈ wsX7_wipe := by decide +kernel
  have iX7 : ∀ w ∈ wsX70, w ∈ wsX7_wipe := by decide +kernel
  obtain ⟨Q, hQ⟩ : ∃ Q, Q = MQ below (QI D [(ax, .inr (7, [.ref ay, .ref ar, .ref ap, .ref aq, .ref aj, .ref az, .ref ak, .ref ae, .ref ad])), (ay, .inr (6, [.ref ayl, .int ylen'])), (ayl, .inl (cC, 200, .inl ylet))] rr A) args s 0 0 A := ⟨_, rfl⟩
  rw [← hQ]
  unfold f_X7_wipe at hF
  refine lv_aload_n hx hb dX7_wipe_0 rfl (lv_at hl 0 rfl) ?_
  refine va_get (D := D) (ci := 7) (v := .ref ay) (C := RX7) (T := TX7) (N := 9) hx hb hts iX7 hown hK hP 0 rfl rfl 0 (by decide) k_f10 (fun _ h9 => h9) rfl dX7_wipe_1 ?_
  refine va_get (D := D) (ci := 6) (v := .int ylen) (C := RX6) (T := TX6) (N := 2) hx hb hts iX6 hown hK hP 1 rfl rfl 1 (by decide) k_f98 (fun _ h9 => h9) rfl dX7_wipe_4 ?_
  refine lv_istore_n (lv' := [(1, .int ylen), (0, .ref ax)]) hx hb dX7_wipe_7 rfl hl (by decide) rfl (fun ls hl => ?_)
  refine lv_aload_n hx hb dX7_wipe_8 rfl (lv_at hl 1 rfl) ?_
  refine va_get (D := D) (ci := 7) (v := .ref ay) (C := RX7) (T := TX7) (N := 9) hx hb hts iX7 hown hK hP 0 rfl rfl 0 (by decide) k_f10 (fun _ h9 => h9) rfl dX7_wipe_9 ?_
  obtain ⟨ylen_1, hb2, hF⟩ := op_bind hF
  refine xVv (As := []) (rest := []) hC hP hD hS [1, 2] (c_X6_clear l D cI cC cM ay ayl ylen ylet ylen_1 hb2) (cwV 0 hts gX7_wipe_X6_clear rfl rfl rfl ⟨rfl, pd_X6_clear⟩ ⟨Nat.le_of_ble_eq_true rfl, Nat.le_of_ble_eq_true rfl⟩) rfl rfl rfl 1 6 rfl rfl rfl rfl hl.1 rfl (Nat.le_of_ble_eq_true rfl) dX7_wipe_12 ⟨Nat.zero_le _, Nat.zero_le _⟩ (fun H locs hP hD hS => ?_)
  have hP : va_P D vwCl [(ax, .inr (7, [.ref ay, .ref ar, .ref ap, .ref aq, .ref aj, .ref az, .ref ak, .ref ae, .ref ad])), (ay, .inr (6, [.ref ayl, .int ylen_1])), (ayl, .inl (cC, 200, .inl ylet))] H := hP
  have hD : va_D A [(ax, .inr (7, [.ref ay, .ref ar, .ref ap, .ref aq, .ref aj, .ref az, .ref ak, .ref ae, .ref ad])), (ay, .inr (6, [.ref ayl, .int ylen_1])), (ayl, .inl (cC, 200, .inl ylet))] := hD
  refine lv_iload_n hx hb dX7_wipe_15 rfl (lv_at hl 0 rfl) ?_
  cases hF
  rw [hQ]
  exact xri hC hP hS dX7_wipe_16

def f_X7_fault (ylen : Int32) (ylet : (Nat → Int32)) (rnum : (Nat → Int32)) (rpkind : (Nat → Int32)) (rpwsq : (Nat → Int32)) (rpwhr : (Nat → Int32)) (rmhour : (Nat → Int32)) (rmworn : (Nat → Int32)) (rmsquare : (Nat → Int32)) (rmunder : (Nat → Int32)) : Option (Int32 × (Nat → Int32) × Int32 × Int32 × Int32 × Int32 × (Nat → Int32) × (Nat → Int32) × (Nat → Int32) × Int32 × Int32 × Int32 × Int32 × (Nat → Int32) × (Nat → Int32) × (Nat → Int32) × (Nat → Int32)) := (Option.bind (f_X3_placeOfFault rnum rpkind rpwsq rpwhr rmhour rmworn rmsquare rmunder ylen ylet) fun (r1, rnum_2, rpsq_3, rppa_4, rppe_5, rpwo_6, rpkind_7, rpwsq_8, rpwhr_9, rmgone_10, rmmet_11, rmstill_12, rmdone_13, rmhour_14, rmworn_15, rmsquare_16, rmunder_17) => (some (r1, rnum_2, rpsq_3, rppa_4, rppe_5, rpwo_6, rpkind_7, rpwsq_8, rpwhr_9, rmgone_10, rmmet_11, rmstill_12, rmdone_13, rmhour_14, rmworn_15, rmsquare_16, rmunder_17)))

def rm_X7_fault : Room := { frames := 5, cells := 0, slots := 0, locals := 116 }

theorem pd_X7_fault : yX7_fault.cls ≠ "java/lang/invoke/MethodHandle" ∧ yX7_fault.cls ≠ "java/lang/invoke/VarHandle" ∧ (parseMethodDescriptor yX7_fault.desc).map (fun d => d.parameters.length) = some 0 := by decide +kernel

set_option maxHeartbeats 4000000 in
set_option maxRecDepth 100000 in
theorem c_X7_fault (l : Launch) (D : va_G) (cI cC cM : ClassId) (ax ay ayl ar arn arp arpk arpq arpr arm armh armw arms armu ap aq aj az ak ae ad : Nat) (ylen : Int32) (ylet : (Nat → Int32)) (rnum : (Nat → Int32)) (rpsq : Int32) (rppa : Int32) (rppe : Int32) (rpwo : Int32) (rpkind : (Nat → Int32)) (rpwsq : (Nat → Int32)) (rpwhr : (Nat → Int32)) (rmgone : Int32) (rmmet : Int32) (rmstill : Int32) (rmdone : Int32) (rmhour : (Nat → Int32)) (rmworn : (Nat → Int32)) (rmsquare : (Nat → Int32)) (rmunder : (Nat → Int32)) (rr : Int32) (rnum' : (Nat → Int32)) (rpsq' : Int32) (rppa' : Int32) (rppe' : Int32) (rpwo' : Int32) (rpkind' : (Nat → Int32)) (rpwsq' : (Nat → Int32)) (rpwhr' : (Nat → Int32)) (rmgone' : Int32) (rmmet' : Int32) (rmstill' : Int32) (rmdone' : Int32) (rmhour' : (Nat → Int32)) (rmworn' : (Nat → Int32)) (rmsquare' : (Nat → Int32)) (rmunder' : (Nat → Int32)) (hF : f_X7_fault ylen ylet rnum rpkind rpwsq rpwhr rmhour rmworn rmsquare rmunder = some (rr, rnum', rpsq', rppa', rppe', rpwo', rpkind', rpwsq', rpwhr', rmgone', rmmet', rmstill', rmdone', rmhour', rmworn', rmsquare', rmunder')) : CI l D cI cC cM yX7_fault wsX7_fault rm_X7_fault [.ref ax] [(ax, .inr (7, [.ref ay, .ref ar, .ref ap, .ref aq, .ref aj, .ref az, .ref ak, .ref ae, .ref ad])), (ay, .inr (6, [.ref ayl, .int ylen])), (ayl, .inl (cC, 200, .inl ylet)), (ar, .inr (3, [.ref arp, .ref arm, .ref arn])), (arn, .inl (cI, 3, .inl rnum)), (arp, .inr (2, [.int rpsq, .int rppa, .int rppe, .int rpwo, .ref arpk, .ref arpq, .ref arpr])), (arpk, .inl (cI, 6, .inl rpkind)), (arpq, .inl (cI, 6, .inl rpwsq)), (arpr, .inl (cI, 6, .inl rpwhr)), (arm, .inr (1, [.ref arp, .int rmgone, .int rmmet, .int rmstill, .int rmdone, .ref armh, .ref armw, .ref arms, .ref armu])), (armh, .inl (cI, 6, .inl rmhour)), (armw, .inl (cI, 6, .inl rmworn)), (arms, .inl (cI, 5, .inl rmsquare)), (armu, .inl (cI, 5, .inl rmunder))] [(ax, .inr (7, [.ref ay, .ref ar, .ref ap, .ref aq, .ref aj, .ref az, .ref ak, .ref ae, .ref ad])), (ay, .inr (6, [.ref ayl, .int ylen])), (ayl, .inl (cC, 200, .inl ylet)), (ar, .inr (3, [.ref arp, .ref arm, .ref arn])), (arn, .inl (cI, 3, .inl rnum')), (arp, .inr (2, [.int rpsq', .int rppa', .int rppe', .int rpwo', .ref arpk, .ref arpq, .ref arpr])), (arpk, .inl (cI, 6, .inl rpkind')), (arpq, .inl (cI, 6, .inl rpwsq')), (arpr, .inl (cI, 6, .inl rpwhr')), (arm, .inr (1, [.ref arp, .int rmgone', .int rmmet', .int rmstill', .int rmdone', .ref armh, .ref armw, .ref arms, .ref armu])), (armh, .inl (cI, 6, .inl rmhour')), (armw, .inl (cI, 6, .inl rmworn')), (arms, .inl (cI, 5, .inl rmsquare')), (armu, .inl (cI, 5, .inl rmunder'))] rr := by
  refine CI.of (cc := cX7_fault) (nL := 1) (ret := (some .int)) (by decide) rfl (Nat.le_of_ble_eq_true rfl) ?_
  intro p e s m args below meth c A hC hP hD hS ls hl
  obtain ⟨hx, hb, hml, hown, hts, hr, hlk, hG, hA⟩ := id hC
  have hown : s.vm.findClass RX7 = some m.cls := hown
  have hK := hG.1
  have hl : lv_has ls 1 [(0, .ref ax)] := hl
  have k_f19 := hts (.fieldLink RX7 19 "ParasolHours" "reader" "LParasolHours$Reader;") (List.mem_of_getElem? (i := 1) rfl)
  have k_f10 := hts (.fieldLink RX7 10 "ParasolHours" "text" "LParasolHours$Text;") (List.mem_of_getElem? (i := 2) rfl)
  have iX7 : ∀ w ∈ wsX70, w ∈ wsX7_fault := by decide +kernel
  obtain ⟨Q, hQ⟩ : ∃ Q, Q = MQ below (QI D [(ax, .inr (7, [.ref ay, .ref ar, .ref ap, .ref aq, .ref aj, .ref az, .ref ak, .ref ae, .ref ad])), (ay, .inr (6, [.ref ayl, .int ylen])), (ayl, .inl (cC, 200, .inl ylet)), (ar, .inr (3, [.ref arp, .ref arm, .ref arn])), (arn, .inl (cI, 3, .inl rnum')), (arp, .inr (2, [.int rpsq', .int rppa', .int rppe', .int rpwo', .ref arpk, .ref arpq, .ref arpr])), (arpk, .inl (cI, 6, .inl rpkind')), (arpq, .inl (cI, 6, .inl rpwsq')), (arpr, .inl (cI, 6, .inl rpwhr')), (arm, .inr (1, [.ref arp, .int rmgone', .int rmmet', .int rmstill', .int rmdone', .ref armh, .ref armw, .ref arms, .ref armu])), (armh, .inl (cI, 6, .inl rmhour')), (armw, .inl (cI, 6, .inl rmworn')), (arms, .inl (cI, 5, .inl rmsquare')), (armu, .inl (cI, 5, .inl rmunder'))] rr A) args s 0 0 A := ⟨_, rfl⟩
  rw [← hQ]
  unfold f_X7_fault at hF
  refine lv_aload_n hx hb dX7_fault_0 rfl (lv_at hl 0 rfl) ?_
  refine va_get (D := D) (ci := 7) (v := .ref ar) (C := RX7) (T := TX7) (N := 9) hx hb hts iX7 hown hK hP 0 rfl rfl 1 (by decide) k_f19 (fun _ h9 => h9) rfl dX7_fault_1 ?_
  refine lv_aload_n hx hb dX7_fault_4 rfl (lv_at hl 0 rfl) ?_
  refine va_get (D := D) (ci := 7) (v := .ref ay) (C := RX7) (T := TX7) (N := 9) hx hb hts iX7 hown hK hP 0 rfl rfl 0 (by decide) k_f10 (fun _ h9 => h9) rfl dX7_fault_5 ?_
  obtain ⟨⟨r1, rnum_2, rpsq_3, rppa_4, rppe_5, rpwo_6, rpkind_7, rpwsq_8, rpwhr_9, rmgone_10, rmmet_11, rmstill_12, rmdone_13, rmhour_14, rmworn_15, rmsquare_16, rmunder_17⟩, hb18, hF⟩ := op_bind hF
  refine xVi (As := [.ref ay]) (rest := []) hC hP hD hS [3, 4, 5, 6, 7, 8, 9, 10, 11, 12, 13, 1, 2] (c_X3_placeOfFault l D cI cC cM ar arn arp arpk arpq arpr arm armh armw arms armu ay ayl rnum rpsq rppa rppe rpwo rpkind rpwsq rpwhr rmgone rmmet rmstill rmdone rmhour rmworn rmsquare rmunder ylen ylet r1 rnum_2 rpsq_3 rppa_4 rppe_5 rpwo_6 rpkind_7 rpwsq_8 rpwhr_9 rmgone_10 rmmet_11 rmstill_12 rmdone_13 rmhour_14 rmworn_15 rmsquare_16 rmunder_17 hb18) (cwV 1 hts gX7_fault_X3_placeOfFault rfl rfl rfl ⟨rfl, pd_X3_placeOfFault⟩ ⟨Nat.le_of_ble_eq_true rfl, Nat.le_of_ble_eq_true rfl⟩) rfl rfl rfl 3 3 rfl rfl rfl rfl hl.1 rfl (Nat.le_of_ble_eq_true rfl) dX7_fault_8 ⟨Nat.zero_le _, Nat.zero_le _⟩ (fun H locs hP hD hS => ?_)
  have hP : va_P D vwCl [(ax, .inr (7, [.ref ay, .ref ar, .ref ap, .ref aq, .ref aj, .ref az, .ref ak, .ref ae, .ref ad])), (ay, .inr (6, [.ref ayl, .int ylen])), (ayl, .inl (cC, 200, .inl ylet)), (ar, .inr (3, [.ref arp, .ref arm, .ref arn])), (arn, .inl (cI, 3, .inl rnum_2)), (arp, .inr (2, [.int rpsq_3, .int rppa_4, .int rppe_5, .int rpwo_6, .ref arpk, .ref arpq, .ref arpr])), (arpk, .inl (cI, 6, .inl rpkind_7)), (arpq, .inl (cI, 6, .inl rpwsq_8)), (arpr, .inl (cI, 6, .inl rpwhr_9)), (arm, .inr (1, [.ref arp, .int rmgone_10, .int rmmet_11, .int rmstill_12, .int rmdone_13, .ref armh, .ref armw, .ref arms, .ref armu])), (armh, .inl (cI, 6, .inl rmhour_14)), (armw, .inl (cI, 6, .inl rmworn_15)), (arms, .inl (cI, 5, .inl rmsquare_16)), (armu, .inl (cI, 5, .inl rmunder_17))] H := hP
  have hD : va_D A [(ax, .inr (7, [.ref ay, .ref ar, .ref ap, .ref aq, .ref aj, .ref az, .ref ak, .ref ae, .ref ad])), (ay, .inr (6, [.ref ayl, .int ylen])), (ayl, .inl (cC, 200, .inl ylet)), (ar, .inr (3, [.ref arp, .ref arm, .ref arn])), (arn, .inl (cI, 3, .inl rnum_2)), (arp, .inr (2, [.int rpsq_3, .int rppa_4, .int rppe_5, .int rpwo_6, .ref arpk, .ref arpq, .ref arpr])), (arpk, .inl (cI, 6, .inl rpkind_7)), (arpq, .inl (cI, 6, .inl rpwsq_8)), (arpr, .inl (cI, 6, .inl rpwhr_9)), (arm, .inr (1, [.ref arp, .int rmgone_10, .int rmmet_11, .int rmstill_12, .int rmdone_13, .ref armh, .ref armw, .ref arms, .ref armu])), (armh, .inl (cI, 6, .inl rmhour_14)), (armw, .inl (cI, 6, .inl rmworn_15)), (arms, .inl (cI, 5, .inl rmsquare_16)), (armu, .inl (cI, 5, .inl rmunder_17))] := hD
  cases hF
  rw [hQ]
  exact xri hC hP hS dX7_fault_11

def f_X7_parasol (ppa : Int32) (ppe : Int32) (pkind : (Nat → Int32)) (qhour : (Nat → Int32)) (qworn : (Nat → Int32)) (qsquare : (Nat → Int32)) (qunder : (Nat → Int32)) (u : Int32) (i : Int32) : Option Int32 := (Option.bind (f_X2_hasParasol ppa u) fun r1 => (if r1 = 0 then (some (-1 : Int32)) else (if i = (0 : Int32) then (Option.bind (f_X2_kindOf pkind u) fun r5 => (some r5)) else (if i = (1 : Int32) then (Option.bind (f_X1_hourOf qhour u) fun r8 => (some r8)) else (if i = (2 : Int32) then (Option.bind (f_X1_wornOf qworn u) fun r11 => (some r11)) else (if i = (3 : Int32) then (Option.bind (f_X1_bearersOf qunder ppe u) fun r14 => (some r14)) else (if i = (4 : Int32) then (Option.bind (f_X1_squareOfParasol qsquare qunder ppe u) fun r17 => (some r17)) else (some (-1 : Int32)))))))))

def rm_X7_parasol : Room := { frames := 3, cells := 0, slots := 0, locals := 65 }

theorem pd_X7_parasol : yX7_parasol.cls ≠ "java/lang/invoke/MethodHandle" ∧ yX7_parasol.cls ≠ "java/lang/invoke/VarHandle" ∧ (parseMethodDescriptor yX7_parasol.desc).map (fun d => d.parameters.length) = some 2 := by decide +kernel

set_option maxHeartbeats 4000000 in
set_option maxRecDepth 100000 in
theorem c_X7_parasol (l : Launch) (D : va_G) (cI cC cM : ClassId) (ax ap apk apq apr aq aqh aqw aqs aqu ay ar aj az ak ae ad : Nat) (psq : Int32) (ppa : Int32) (ppe : Int32) (pwo : Int32) (pkind : (Nat → Int32)) (pwsq : (Nat → Int32)) (pwhr : (Nat → Int32)) (qgone : Int32) (qmet : Int32) (qstill : Int32) (qdone : Int32) (qhour : (Nat → Int32)) (qworn : (Nat → Int32)) (qsquare : (Nat → Int32)) (qunder : (Nat → Int32)) (u : Int32) (i : Int32) (rr : Int32) (hF : f_X7_parasol ppa ppe pkind qhour qworn qsquare qunder u i = some rr) : CI l D cI cC cM yX7_parasol wsX7_parasol rm_X7_parasol [.ref ax, .int u, .int i] [(ax, .inr (7, [.ref ay, .ref ar, .ref ap, .ref aq, .ref aj, .ref az, .ref ak, .ref ae, .ref ad])), (ap, .inr (2, [.int psq, .int ppa, .int ppe, .int pwo, .ref apk, .ref apq, .ref apr])), (apk, .inl (cI, 6, .inl pkind)), (apq, .inl (cI, 6, .inl pwsq)), (apr, .inl (cI, 6, .inl pwhr)), (aq, .inr (1, [.ref ap, .int qgone, .int qmet, .int qstill, .int qdone, .ref aqh, .ref aqw, .ref aqs, .ref aqu])), (aqh, .inl (cI, 6, .inl qhour)), (aqw, .inl (cI, 6, .inl qworn)), (aqs, .inl (cI, 5, .inl qsquare)), (aqu, .inl (cI, 5, .inl qunder))] [(ax, .inr (7, [.ref ay, .ref ar, .ref ap, .ref aq, .ref aj, .ref az, .ref ak, .ref ae, .ref ad])), (ap, .inr (2, [.int psq, .int ppa, .int ppe, .int pwo, .ref apk, .ref apq, .ref apr])), (apk, .inl (cI, 6, .inl pkind)), (apq, .inl (cI, 6, .inl pwsq)), (apr, .inl (cI, 6, .inl pwhr)), (aq, .inr (1, [.ref ap, .int qgone, .int qmet, .int qstill, .int qdone, .ref aqh, .ref aqw, .ref aqs, .ref aqu])), (aqh, .inl (cI, 6, .inl qhour)), (aqw, .inl (cI, 6, .inl qworn)), (aqs, .inl (cI, 5, .inl qsquare)), (aqu, .inl (cI, 5, .inl qunder))] rr := by
  refine CI.of (cc := cX7_parasol) (nL := 3) (ret := (some .int)) (by decide) rfl (Nat.le_of_ble_eq_true rfl) ?_
  intro p e s m args below meth c A hC hP hD hS ls hl
  obtain ⟨hx, hb, hml, hown, hts, hr, hlk, hG, hA⟩ := id hC
  have hown : s.vm.findClass RX7 = some m.cls := hown
  have hK := hG.1
  have hl : lv_has ls 3 [(0, .ref ax), (1, .int u), (2, .int i)] := hl
  have k_f26 := hts (.fieldLink RX7 26 "ParasolHours" "plan" "LParasolHours$Plan;") (List.mem_of_getElem? (i := 1) rfl)
  have k_f35 := hts (.fieldLink RX7 35 "ParasolHours" "now" "LParasolHours$Moment;") (List.mem_of_getElem? (i := 2) rfl)
  have iX7 : ∀ w ∈ wsX70, w ∈ wsX7_parasol := by decide +kernel
  obtain ⟨Q, hQ⟩ : ∃ Q, Q = MQ below (QI D [(ax, .inr (7, [.ref ay, .ref ar, .ref ap, .ref aq, .ref aj, .ref az, .ref ak, .ref ae, .ref ad])), (ap, .inr (2, [.int psq, .int ppa, .int ppe, .int pwo, .ref apk, .ref apq, .ref apr])), (apk, .inl (cI, 6, .inl pkind)), (apq, .inl (cI, 6, .inl pwsq)), (apr, .inl (cI, 6, .inl pwhr)), (aq, .inr (1, [.ref ap, .int qgone, .int qmet, .int qstill, .int qdone, .ref aqh, .ref aqw, .ref aqs, .ref aqu])), (aqh, .inl (cI, 6, .inl qhour)), (aqw, .inl (cI, 6, .inl qworn)), (aqs, .inl (cI, 5, .inl qsquare)), (aqu, .inl (cI, 5, .inl qunder))] rr A) args s 0 0 A := ⟨_, rfl⟩
  rw [← hQ]
  unfold f_X7_parasol at hF
  refine lv_aload_n hx hb dX7_parasol_0 rfl (lv_at hl 0 rfl) ?_
  refine va_get (D := D) (ci := 7) (v := .ref ap) (C := RX7) (T := TX7) (N := 9) hx hb hts iX7 hown hK hP 0 rfl rfl 2 (by decide) k_f26 (fun _ h9 => h9) rfl dX7_parasol_1 ?_
  refine lv_iload_n hx hb dX7_parasol_4 rfl (lv_at hl 1 rfl) ?_
  obtain ⟨r1, hb2, hF⟩ := op_bind hF
  refine xVr (As := [.int u]) (rest := []) hC hP hD hS [1, 2, 3, 4] (c_X2_hasParasol l D cI cC cM ap apk apq apr psq ppa ppe pwo pkind pwsq pwhr u r1 hb2) (cwV 1 hts gX7_parasol_X2_hasParasol rfl rfl rfl ⟨rfl, pd_X2_hasParasol⟩ ⟨Nat.le_of_ble_eq_true rfl, Nat.le_of_ble_eq_true rfl⟩) rfl rfl 1 2 rfl rfl rfl rfl hl.1 rfl (Nat.le_of_ble_eq_true rfl) dX7_parasol_5 ⟨Nat.zero_le _, Nat.zero_le _⟩ (fun H locs hP hS => ?_)
  refine lv_if_ne (tgt := 13) hx hb dX7_parasol_8 (by decide) (fun c3 => ?_) (fun c3 => ?_)
  · have hF := op_neg c3 hF
    refine lv_iload_n hx hb dX7_parasol_13 rfl (lv_at hl 2 rfl) ?_
    by_cases c4 : i = (0 : Int32)
    · have hF := op_pos c4 hF
      refine lv_tableIn (x := i) (off := 34) (tgt := 48) hx hb dX7_parasol_14 (by rw [c4]; decide) (by rw [c4]; decide) (by rw [c4]; rfl) (by decide) ?_
      refine lv_aload_n hx hb dX7_parasol_48 rfl (lv_at hl 0 rfl) ?_
      refine va_get (D := D) (ci := 7) (v := .ref ap) (C := RX7) (T := TX7) (N := 9) hx hb hts iX7 hown hK hP 0 rfl rfl 2 (by decide) k_f26 (fun _ h9 => h9) rfl dX7_parasol_49 ?_
      refine lv_iload_n hx hb dX7_parasol_52 rfl (lv_at hl 1 rfl) ?_
      obtain ⟨r5, hb6, hF⟩ := op_bind hF
      refine xVr (As := [.int u]) (rest := []) hC hP hD hS [1, 2, 3, 4] (c_X2_kindOf l D cI cC cM ap apk apq apr psq ppa ppe pwo pkind pwsq pwhr u r5 hb6) (cwV 1 hts gX7_parasol_X2_kindOf rfl rfl rfl ⟨rfl, pd_X2_kindOf⟩ ⟨Nat.le_of_ble_eq_true rfl, Nat.le_of_ble_eq_true rfl⟩) rfl rfl 1 2 rfl rfl rfl rfl hl.1 rfl (Nat.le_of_ble_eq_true rfl) dX7_parasol_53 ⟨Nat.zero_le _, Nat.zero_le _⟩ (fun H locs hP hS => ?_)
      cases hF
      rw [hQ]
      exact xri hC hP hS dX7_parasol_56
    · have hF := op_neg c4 hF
      by_cases c7 : i = (1 : Int32)
      · have hF := op_pos c7 hF
        refine lv_tableIn (x := i) (off := 43) (tgt := 57) hx hb dX7_parasol_14 (by rw [c7]; decide) (by rw [c7]; decide) (by rw [c7]; rfl) (by decide) ?_
        refine lv_aload_n hx hb dX7_parasol_57 rfl (lv_at hl 0 rfl) ?_
        refine va_get (D := D) (ci := 7) (v := .ref aq) (C := RX7) (T := TX7) (N := 9) hx hb hts iX7 hown hK hP 0 rfl rfl 3 (by decide) k_f35 (fun _ h9 => h9) rfl dX7_parasol_58 ?_
        refine lv_iload_n hx hb dX7_parasol_61 rfl (lv_at hl 1 rfl) ?_
        obtain ⟨r8, hb9, hF⟩ := op_bind hF
        refine xVr (As := [.int u]) (rest := []) hC hP hD hS [5, 6, 7, 8, 9, 1, 2, 3, 4] (c_X1_hourOf l D cI cC cM aq aqh aqw aqs aqu ap apk apq apr qgone qmet qstill qdone qhour qworn qsquare qunder psq ppa ppe pwo pkind pwsq pwhr u r8 hb9) (cwV 1 hts gX7_parasol_X1_hourOf rfl rfl rfl ⟨rfl, pd_X1_hourOf⟩ ⟨Nat.le_of_ble_eq_true rfl, Nat.le_of_ble_eq_true rfl⟩) rfl rfl 5 1 rfl rfl rfl rfl hl.1 rfl (Nat.le_of_ble_eq_true rfl) dX7_parasol_62 ⟨Nat.zero_le _, Nat.zero_le _⟩ (fun H locs hP hS => ?_)
        cases hF
        rw [hQ]
        exact xri hC hP hS dX7_parasol_65
      · have hF := op_neg c7 hF
        by_cases c10 : i = (2 : Int32)
        · have hF := op_pos c10 hF
          refine lv_tableIn (x := i) (off := 52) (tgt := 66) hx hb dX7_parasol_14 (by rw [c10]; decide) (by rw [c10]; decide) (by rw [c10]; rfl) (by decide) ?_
          refine lv_aload_n hx hb dX7_parasol_66 rfl (lv_at hl 0 rfl) ?_
          refine va_get (D := D) (ci := 7) (v := .ref aq) (C := RX7) (T := TX7) (N := 9) hx hb hts iX7 hown hK hP 0 rfl rfl 3 (by decide) k_f35 (fun _ h9 => h9) rfl dX7_parasol_67 ?_
          refine lv_iload_n hx hb dX7_parasol_70 rfl (lv_at hl 1 rfl) ?_
          obtain ⟨r11, hb12, hF⟩ := op_bind hF
          refine xVr (As := [.int u]) (rest := []) hC hP hD hS [5, 6, 7, 8, 9, 1, 2, 3, 4] (c_X1_wornOf l D cI cC cM aq aqh aqw aqs aqu ap apk apq apr qgone qmet qstill qdone qhour qworn qsquare qunder psq ppa ppe pwo pkind pwsq pwhr u r11 hb12) (cwV 1 hts gX7_parasol_X1_wornOf rfl rfl rfl ⟨rfl, pd_X1_wornOf⟩ ⟨Nat.le_of_ble_eq_true rfl, Nat.le_of_ble_eq_true rfl⟩) rfl rfl 5 1 rfl rfl rfl rfl hl.1 rfl (Nat.le_of_ble_eq_true rfl) dX7_parasol_71 ⟨Nat.zero_le _, Nat.zero_le _⟩ (fun H locs hP hS => ?_)
          cases hF
          rw [hQ]
          exact xri hC hP hS dX7_parasol_74
        · have hF := op_neg c10 hF
          by_cases c13 : i = (3 : Int32)
          · have hF := op_pos c13 hF
            refine lv_tableIn (x := i) (off := 61) (tgt := 75) hx hb dX7_parasol_14 (by rw [c13]; decide) (by rw [c13]; decide) (by rw [c13]; rfl) (by decide) ?_
            refine lv_aload_n hx hb dX7_parasol_75 rfl (lv_at hl 0 rfl) ?_
            refine va_get (D := D) (ci := 7) (v := .ref aq) (C := RX7) (T := TX7) (N := 9) hx hb hts iX7 hown hK hP 0 rfl rfl 3 (by decide) k_f35 (fun _ h9 => h9) rfl dX7_parasol_76 ?_
            refine lv_iload_n hx hb dX7_parasol_79 rfl (lv_at hl 1 rfl) ?_
            obtain ⟨r14, hb15, hF⟩ := op_bind hF
            refine xVr (As := [.int u]) (rest := []) hC hP hD hS [5, 6, 7, 8, 9, 1, 2, 3, 4] (c_X1_bearersOf l D cI cC cM aq aqh aqw aqs aqu ap apk apq apr qgone qmet qstill qdone qhour qworn qsquare qunder psq ppa ppe pwo pkind pwsq pwhr u r14 hb15) (cwV 1 hts gX7_parasol_X1_bearersOf rfl rfl rfl ⟨rfl, pd_X1_bearersOf⟩ ⟨Nat.le_of_ble_eq_true rfl, Nat.le_of_ble_eq_true rfl⟩) rfl rfl 5 1 rfl rfl rfl rfl hl.1 rfl (Nat.le_of_ble_eq_true rfl) dX7_parasol_80 ⟨Nat.zero_le _, Nat.zero_le _⟩ (fun H locs hP hS => ?_)
            cases hF
            rw [hQ]
            exact xri hC hP hS dX7_parasol_83
          · have hF := op_neg c13 hF
            by_cases c16 : i = (4 : Int32)
            · have hF := op_pos c16 hF
              refine lv_tableIn (x := i) (off := 70) (tgt := 84) hx hb dX7_parasol_14 (by rw [c16]; decide) (by rw [c16]; decide) (by rw [c16]; rfl) (by decide) ?_
              refine lv_aload_n hx hb dX7_parasol_84 rfl (lv_at hl 0 rfl) ?_
              refine va_get (D := D) (ci := 7) (v := .ref aq) (C := RX7) (T := TX7) (N := 9) hx hb hts iX7 hown hK hP 0 rfl rfl 3 (by decide) k_f35 (fun _ h9 => h9) rfl dX7_parasol_85 ?_
              refine lv_iload_n hx hb dX7_parasol_88 rfl (lv_at hl 1 rfl) ?_
              obtain ⟨r17, hb18, hF⟩ := op_bind hF
              refine xVr (As := [.int u]) (rest := []) hC hP hD hS [5, 6, 7, 8, 9, 1, 2, 3, 4] (c_X1_squareOfParasol l D cI cC cM aq aqh aqw aqs aqu ap apk apq apr qgone qmet qstill qdone qhour qworn qsquare qunder psq ppa ppe pwo pkind pwsq pwhr u r17 hb18) (cwV 1 hts gX7_parasol_X1_squareOfParasol rfl rfl rfl ⟨rfl, pd_X1_squareOfParasol⟩ ⟨Nat.le_of_ble_eq_true rfl, Nat.le_of_ble_eq_true rfl⟩) rfl rfl 5 1 rfl rfl rfl rfl hl.1 rfl (Nat.le_of_ble_eq_true rfl) dX7_parasol_89 ⟨Nat.zero_le _, Nat.zero_le _⟩ (fun H locs hP hS => ?_)
              cases hF
              rw [hQ]
              exact xri hC hP hS dX7_parasol_92
            · have hF := op_neg c16 hF
              refine lv_tableOut (x := i) (tgt := 93) hx hb dX7_parasol_14 (by have n0 := lv_neT (a := 0) c4 rfl; have n1 := lv_neT (a := 1) c7 rfl; have n2 := lv_neT (a := 2) c10 rfl; have n3 := lv_neT (a := 3) c13 rfl; have n4 := lv_neT (a := 4) c16 rfl; omega) (by decide) ?_
              refine lv_iconst (v := (-1 : Int32)) hx hb dX7_parasol_93 (by decide) ?_
              cases hF
              rw [hQ]
              exact xri hC hP hS dX7_parasol_94
  · have hF := op_pos c3 hF
    refine lv_iconst (v := (-1 : Int32)) hx hb dX7_parasol_11 (by decide) ?_
    cases hF
    rw [hQ]
    exact xri hC hP hS dX7_parasol_12

def f_X7_person (ppe : Int32) (qstill : Int32) (qhour : (Nat → Int32)) (qworn : (Nat → Int32)) (qsquare : (Nat → Int32)) (qunder : (Nat → Int32)) (u : Int32) (i : Int32) : Option Int32 := (Option.bind (f_X2_hasPerson ppe u) fun r1 => (if r1 = 0 then (some (-1 : Int32)) else (if i = (0 : Int32) then (Option.bind (f_X1_squareOf qsquare u) fun r5 => (some r5)) else (if i = (1 : Int32) then (Option.bind (f_X1_parasolOf qunder u) fun r8 => (some r8)) else (if i = (2 : Int32) then (Option.bind (f_X1_parasolOf qunder u) fun r11 => (Option.bind (f_X1_timeOf qhour qworn qsquare u r11) fun r13 => (some r13))) else (if i = (3 : Int32) then (Option.bind (f_X1_isStill qstill u) fun r16 => (if r16 = 0 then (some (0 : Int32)) else (some (1 : Int32)))) else (if i = (4 : Int32) then (Option.bind (f_X1_hasShade qworn qsquare qunder u) fun r20 => (if r20 = 0 then (some (0 : Int32)) else (some (1 : Int32)))) else (some (-1 : Int32)))))))))

def rm_X7_person : Room := { frames := 3, cells := 0, slots := 0, locals := 64 }

theorem pd_X7_person : yX7_person.cls ≠ "java/lang/invoke/MethodHandle" ∧ yX7_person.cls ≠ "java/lang/invoke/VarHandle" ∧ (parseMethodDescriptor yX7_person.desc).map (fun d => d.parameters.length) = some 2 := by decide +kernel

set_option maxHeartbeats 4000000 in
set_option maxRecDepth 100000 in
theorem c_X7_person (l : Launch) (D : va_G) (cI cC cM : ClassId) (ax ap apk apq apr aq aqh aqw aqs aqu ay ar aj az ak ae ad : Nat) (psq : Int32) (ppa : Int32) (ppe : Int32) (pwo : Int32) (pkind : (Nat → Int32)) (pwsq : (Nat → Int32)) (pwhr : (Nat → Int32)) (qgone : Int32) (qmet : Int32) (qstill : Int32) (qdone : Int32) (qhour : (Nat → Int32)) (qworn : (Nat → Int32)) (qsquare : (Nat → Int32)) (qunder : (Nat → Int32)) (u : Int32) (i : Int32) (rr : Int32) (hF : f_X7_person ppe qstill qhour qworn qsquare qunder u i = some rr) : CI l D cI cC cM yX7_person wsX7_person rm_X7_person [.ref ax, .int u, .int i] [(ax, .inr (7, [.ref ay, .ref ar, .ref ap, .ref aq, .ref aj, .ref az, .ref ak, .ref ae, .ref ad])), (ap, .inr (2, [.int psq, .int ppa, .int ppe, .int pwo, .ref apk, .ref apq, .ref apr])), (apk, .inl (cI, 6, .inl pkind)), (apq, .inl (cI, 6, .inl pwsq)), (apr, .inl (cI, 6, .inl pwhr)), (aq, .inr (1, [.ref ap, .int qgone, .int qmet, .int qstill, .int qdone, .ref aqh, .ref aqw, .ref aqs, .ref aqu])), (aqh, .inl (cI, 6, .inl qhour)), (aqw, .inl (cI, 6, .inl qworn)), (aqs, .inl (cI, 5, .inl qsquare)), (aqu, .inl (cI, 5, .inl qunder))] [(ax, .inr (7, [.ref ay, .ref ar, .ref ap, .ref aq, .ref aj, .ref az, .ref ak, .ref ae, .ref ad])), (ap, .inr (2, [.int psq, .int ppa, .int ppe, .int pwo, .ref apk, .ref apq, .ref apr])), (apk, .inl (cI, 6, .inl pkind)), (apq, .inl (cI, 6, .inl pwsq)), (apr, .inl (cI, 6, .inl pwhr)), (aq, .inr (1, [.ref ap, .int qgone, .int qmet, .int qstill, .int qdone, .ref aqh, .ref aqw, .ref aqs, .ref aqu])), (aqh, .inl (cI, 6, .inl qhour)), (aqw, .inl (cI, 6, .inl qworn)), (aqs, .inl (cI, 5, .inl qsquare)), (aqu, .inl (cI, 5, .inl qunder))] rr := by
  refine CI.of (cc := cX7_person) (nL := 3) (ret := (some .int)) (by decide) rfl (Nat.le_of_ble_eq_true rfl) ?_
  intro p e s m args below meth c A hC hP hD hS ls hl
  obtain ⟨hx, hb, hml, hown, hts, hr, hlk, hG, hA⟩ := id hC
  have hown : s.vm.findClass RX7 = some m.cls := hown
  have hK := hG.1
  have hl : lv_has ls 3 [(0, .ref ax), (1, .int u), (2, .int i)] := hl
  have k_f26 := hts (.fieldLink RX7 26 "ParasolHours" "plan" "LParasolHours$Plan;") (List.mem_of_getElem? (i := 1) rfl)
  have k_f35 := hts (.fieldLink RX7 35 "ParasolHours" "now" "LParasolHours$Moment;") (List.mem_of_getElem? (i := 2) rfl)
  have iX7 : ∀ w ∈ wsX70, w ∈ wsX7_person := by decide +kernel
  obtain ⟨Q, hQ⟩ : ∃ Q, Q = MQ below (QI D [(ax, .inr (7, [.ref ay, .ref ar, .ref ap, .ref aq, .ref aj, .ref az, .ref ak, .ref ae, .ref ad])), (ap, .inr (2, [.int psq, .int ppa, .int ppe, .int pwo, .ref apk, .ref apq, .ref apr])), (apk, .inl (cI, 6, .inl pkind)), (apq, .inl (cI, 6, .inl pwsq)), (apr, .inl (cI, 6, .inl pwhr)), (aq, .inr (1, [.ref ap, .int qgone, .int qmet, .int qstill, .int qdone, .ref aqh, .ref aqw, .ref aqs, .ref aqu])), (aqh, .inl (cI, 6, .inl qhour)), (aqw, .inl (cI, 6, .inl qworn)), (aqs, .inl (cI, 5, .inl qsquare)), (aqu, .inl (cI, 5, .inl qunder))] rr A) args s 0 0 A := ⟨_, rfl⟩
  rw [← hQ]
  unfold f_X7_person at hF
  refine lv_aload_n hx hb dX7_person_0 rfl (lv_at hl 0 rfl) ?_
  refine va_get (D := D) (ci := 7) (v := .ref ap) (C := RX7) (T := TX7) (N := 9) hx hb hts iX7 hown hK hP 0 rfl rfl 2 (by decide) k_f26 (fun _ h9 => h9) rfl dX7_person_1 ?_
  refine lv_iload_n hx hb dX7_person_4 rfl (lv_at hl 1 rfl) ?_
  obtain ⟨r1, hb2, hF⟩ := op_bind hF
  refine xVr (As := [.int u]) (rest := []) hC hP hD hS [1, 2, 3, 4] (c_X2_hasPerson l D cI cC cM ap apk apq apr psq ppa ppe pwo pkind pwsq pwhr u r1 hb2) (cwV 1 hts gX7_person_X2_hasPerson rfl rfl rfl ⟨rfl, pd_X2_hasPerson⟩ ⟨Nat.le_of_ble_eq_true rfl, Nat.le_of_ble_eq_true rfl⟩) rfl rfl 1 2 rfl rfl rfl rfl hl.1 rfl (Nat.le_of_ble_eq_true rfl) dX7_person_5 ⟨Nat.zero_le _, Nat.zero_le _⟩ (fun H locs hP hS => ?_)
  refine lv_if_ne (tgt := 13) hx hb dX7_person_8 (by decide) (fun c3 => ?_) (fun c3 => ?_)
  · have hF := op_neg c3 hF
    refine lv_iload_n hx hb dX7_person_13 rfl (lv_at hl 2 rfl) ?_
    by_cases c4 : i = (0 : Int32)
    · have hF := op_pos c4 hF
      refine lv_tableIn (x := i) (off := 34) (tgt := 48) hx hb dX7_person_14 (by rw [c4]; decide) (by rw [c4]; decide) (by rw [c4]; rfl) (by decide) ?_
      refine lv_aload_n hx hb dX7_person_48 rfl (lv_at hl 0 rfl) ?_
      refine va_get (D := D) (ci := 7) (v := .ref aq) (C := RX7) (T := TX7) (N := 9) hx hb hts iX7 hown hK hP 0 rfl rfl 3 (by decide) k_f35 (fun _ h9 => h9) rfl dX7_person_49 ?_
      refine lv_iload_n hx hb dX7_person_52 rfl (lv_at hl 1 rfl) ?_
      obtain ⟨r5, hb6, hF⟩ := op_bind hF
      refine xVr (As := [.int u]) (rest := []) hC hP hD hS [5, 6, 7, 8, 9, 1, 2, 3, 4] (c_X1_squareOf l D cI cC cM aq aqh aqw aqs aqu ap apk apq apr qgone qmet qstill qdone qhour qworn qsquare qunder psq ppa ppe pwo pkind pwsq pwhr u r5 hb6) (cwV 1 hts gX7_person_X1_squareOf rfl rfl rfl ⟨rfl, pd_X1_squareOf⟩ ⟨Nat.le_of_ble_eq_true rfl, Nat.le_of_ble_eq_true rfl⟩) rfl rfl 5 1 rfl rfl rfl rfl hl.1 rfl (Nat.le_of_ble_eq_true rfl) dX7_person_53 ⟨Nat.zero_le _, Nat.zero_le _⟩ (fun H locs hP hS => ?_)
      cases hF
      rw [hQ]
      exact xri hC hP hS dX7_person_56
    · have hF := op_neg c4 hF
      by_cases c7 : i = (1 : Int32)
      · have hF := op_pos c7 hF
        refine lv_tableIn (x := i) (off := 43) (tgt := 57) hx hb dX7_person_14 (by rw [c7]; decide) (by rw [c7]; decide) (by rw [c7]; rfl) (by decide) ?_
        refine lv_aload_n hx hb dX7_person_57 rfl (lv_at hl 0 rfl) ?_
        refine va_get (D := D) (ci := 7) (v := .ref aq) (C := RX7) (T := TX7) (N := 9) hx hb hts iX7 hown hK hP 0 rfl rfl 3 (by decide) k_f35 (fun _ h9 => h9) rfl dX7_person_58 ?_
        refine lv_iload_n hx hb dX7_person_61 rfl (lv_at hl 1 rfl) ?_
        obtain ⟨r8, hb9, hF⟩ := op_bind hF
        refine xVr (As := [.int u]) (rest := []) hC hP hD hS [5, 6, 7, 8, 9, 1, 2, 3, 4] (c_X1_parasolOf l D cI cC cM aq aqh aqw aqs aqu ap apk apq apr qgone qmet qstill qdone qhour qworn qsquare qunder psq ppa ppe pwo pkind pwsq pwhr u r8 hb9) (cwV 1 hts gX7_person_X1_parasolOf rfl rfl rfl ⟨rfl, pd_X1_parasolOf⟩ ⟨Nat.le_of_ble_eq_true rfl, Nat.le_of_ble_eq_true rfl⟩) rfl rfl 5 1 rfl rfl rfl rfl hl.1 rfl (Nat.le_of_ble_eq_true rfl) dX7_person_62 ⟨Nat.zero_le _, Nat.zero_le _⟩ (fun H locs hP hS => ?_)
        cases hF
        rw [hQ]
        exact xri hC hP hS dX7_person_65
      · have hF := op_neg c7 hF
        by_cases c10 : i = (2 : Int32)
        · have hF := op_pos c10 hF
          refine lv_tableIn (x := i) (off := 52) (tgt := 66) hx hb dX7_person_14 (by rw [c10]; decide) (by rw [c10]; decide) (by rw [c10]; rfl) (by decide) ?_
          refine lv_aload_n hx hb dX7_person_66 rfl (lv_at hl 0 rfl) ?_
          refine va_get (D := D) (ci := 7) (v := .ref aq) (C := RX7) (T := TX7) (N := 9) hx hb hts iX7 hown hK hP 0 rfl rfl 3 (by decide) k_f35 (fun _ h9 => h9) rfl dX7_person_67 ?_
          refine lv_iload_n hx hb dX7_person_70 rfl (lv_at hl 1 rfl) ?_
          refine lv_aload_n hx hb dX7_person_71 rfl (lv_at hl 0 rfl) ?_
          refine va_get (D := D) (ci := 7) (v := .ref aq) (C := RX7) (T := TX7) (N := 9) hx hb hts iX7 hown hK hP 0 rfl rfl 3 (by decide) k_f35 (fun _ h9 => h9) rfl dX7_person_72 ?_
          refine lv_iload_n hx hb dX7_person_75 rfl (lv_at hl 1 rfl) ?_
          obtain ⟨r11, hb12, hF⟩ := op_bind hF
          refine xVr (As := [.int u]) (rest := [.int u, .ref aq]) hC hP hD hS [5, 6, 7, 8, 9, 1, 2, 3, 4] (c_X1_parasolOf l D cI cC cM aq aqh aqw aqs aqu ap apk apq apr qgone qmet qstill qdone qhour qworn qsquare qunder psq ppa ppe pwo pkind pwsq pwhr u r11 hb12) (cwV 1 hts gX7_person_X1_parasolOf rfl rfl rfl ⟨rfl, pd_X1_parasolOf⟩ ⟨Nat.le_of_ble_eq_true rfl, Nat.le_of_ble_eq_true rfl⟩) rfl rfl 5 1 rfl rfl rfl rfl hl.1 rfl (Nat.le_of_ble_eq_true rfl) dX7_person_76 ⟨Nat.zero_le _, Nat.zero_le _⟩ (fun H locs hP hS => ?_)
          obtain ⟨r13, hb14, hF⟩ := op_bind hF
          refine xVr (As := [.int u, .int r11]) (rest := []) hC hP hD hS [5, 6, 7, 8, 9, 1, 2, 3, 4] (c_X1_timeOf l D cI cC cM aq aqh aqw aqs aqu ap apk apq apr qgone qmet qstill qdone qhour qworn qsquare qunder psq ppa ppe pwo pkind pwsq pwhr u r11 r13 hb14) (cwV 2 hts gX7_person_X1_timeOf rfl rfl rfl ⟨rfl, pd_X1_timeOf⟩ ⟨Nat.le_of_ble_eq_true rfl, Nat.le_of_ble_eq_true rfl⟩) rfl rfl 5 1 rfl rfl rfl rfl hl.1 rfl (Nat.le_of_ble_eq_true rfl) dX7_person_79 ⟨Nat.zero_le _, Nat.zero_le _⟩ (fun H locs hP hS => ?_)
          cases hF
          rw [hQ]
          exact xri hC hP hS dX7_person_82
        · have hF := op_neg c10 hF
          by_cases c15 : i = (3 : Int32)
          · have hF := op_pos c15 hF
            refine lv_tableIn (x := i) (off := 69) (tgt := 83) hx hb dX7_person_14 (by rw [c15]; decide) (by rw [c15]; decide) (by rw [c15]; rfl) (by decide) ?_
            refine lv_aload_n hx hb dX7_person_83 rfl (lv_at hl 0 rfl) ?_
            refine va_get (D := D) (ci := 7) (v := .ref aq) (C := RX7) (T := TX7) (N := 9) hx hb hts iX7 hown hK hP 0 rfl rfl 3 (by decide) k_f35 (fun _ h9 => h9) rfl dX7_person_84 ?_
            refine lv_iload_n hx hb dX7_person_87 rfl (lv_at hl 1 rfl) ?_
            obtain ⟨r16, hb17, hF⟩ := op_bind hF
            refine xVr (As := [.int u]) (rest := []) hC hP hD hS [5, 6, 7, 8, 9, 1, 2, 3, 4] (c_X1_isStill l D cI cC cM aq aqh aqw aqs aqu ap apk apq apr qgone qmet qstill qdone qhour qworn qsquare qunder psq ppa ppe pwo pkind pwsq pwhr u r16 hb17) (cwV 1 hts gX7_person_X1_isStill rfl rfl rfl ⟨rfl, pd_X1_isStill⟩ ⟨Nat.le_of_ble_eq_true rfl, Nat.le_of_ble_eq_true rfl⟩) rfl rfl 5 1 rfl rfl rfl rfl hl.1 rfl (Nat.le_of_ble_eq_true rfl) dX7_person_88 ⟨Nat.zero_le _, Nat.zero_le _⟩ (fun H locs hP hS => ?_)
            refine lv_if_eq (tgt := 98) hx hb dX7_person_91 (by decide) (fun c18 => ?_) (fun c18 => ?_)
            · have hF := op_pos c18 hF
              refine lv_iconst (v := (0 : Int32)) hx hb dX7_person_98 (by decide) ?_
              cases hF
              rw [hQ]
              exact xri hC hP hS dX7_person_99
            · have hF := op_neg c18 hF
              refine lv_iconst (v := (1 : Int32)) hx hb dX7_person_94 (by decide) ?_
              refine lv_goto (tgt := 99) hx hb dX7_person_95 (by decide) ?_
              cases hF
              rw [hQ]
              exact xri hC hP hS dX7_person_99
          · have hF := op_neg c15 hF
            by_cases c19 : i = (4 : Int32)
            · have hF := op_pos c19 hF
              refine lv_tableIn (x := i) (off := 86) (tgt := 100) hx hb dX7_person_14 (by rw [c19]; decide) (by rw [c19]; decide) (by rw [c19]; rfl) (by decide) ?_
              refine lv_aload_n hx hb dX7_person_100 rfl (lv_at hl 0 rfl) ?_
              refine va_get (D := D) (ci := 7) (v := .ref aq) (C := RX7) (T := TX7) (N := 9) hx hb hts iX7 hown hK hP 0 rfl rfl 3 (by decide) k_f35 (fun _ h9 => h9) rfl dX7_person_101 ?_
              refine lv_iload_n hx hb dX7_person_104 rfl (lv_at hl 1 rfl) ?_
              obtain ⟨r20, hb21, hF⟩ := op_bind hF
              refine xVr (As := [.int u]) (rest := []) hC hP hD hS [5, 6, 7, 8, 9, 1, 2, 3, 4] (c_X1_hasShade l D cI cC cM aq aqh aqw aqs aqu ap apk apq apr qgone qmet qstill qdone qhour qworn qsquare qunder psq ppa ppe pwo pkind pwsq pwhr u r20 hb21) (cwV 1 hts gX7_person_X1_hasShade rfl rfl rfl ⟨rfl, pd_X1_hasShade⟩ ⟨Nat.le_of_ble_eq_true rfl, Nat.le_of_ble_eq_true rfl⟩) rfl rfl 5 1 rfl rfl rfl rfl hl.1 rfl (Nat.le_of_ble_eq_true rfl) dX7_person_105 ⟨Nat.zero_le _, Nat.zero_le _⟩ (fun H locs hP hS => ?_)
              refine lv_if_eq (tgt := 115) hx hb dX7_person_108 (by decide) (fun c22 => ?_) (fun c22 => ?_)
              · have hF := op_pos c22 hF
                refine lv_iconst (v := (0 : Int32)) hx hb dX7_person_115 (by decide) ?_
                cases hF
                rw [hQ]
                exact xri hC hP hS dX7_person_116
              · have hF := op_neg c22 hF
                refine lv_iconst (v := (1 : Int32)) hx hb dX7_person_111 (by decide) ?_
                refine lv_goto (tgt := 116) hx hb dX7_person_112 (by decide) ?_
                cases hF
                rw [hQ]
                exact xri hC hP hS dX7_person_116
            · have hF := op_neg c19 hF
              refine lv_tableOut (x := i) (tgt := 117) hx hb dX7_person_14 (by have n0 := lv_neT (a := 0) c4 rfl; have n1 := lv_neT (a := 1) c7 rfl; have n2 := lv_neT (a := 2) c10 rfl; have n3 := lv_neT (a := 3) c15 rfl; have n4 := lv_neT (a := 4) c19 rfl; omega) (by decide) ?_
              refine lv_iconst (v := (-1 : Int32)) hx hb dX7_person_117 (by decide) ?_
              cases hF
              rw [hQ]
              exact xri hC hP hS dX7_person_118
  · have hF := op_pos c3 hF
    refine lv_iconst (v := (-1 : Int32)) hx hb dX7_person_11 (by decide) ?_
    cases hF
    rw [hQ]
    exact xri hC hP hS dX7_person_12

def f_X7_work (pwo : Int32) (pwsq : (Nat → Int32)) (pwhr : (Nat → Int32)) (qdone : Int32) (w : Int32) (i : Int32) : Option Int32 := (Option.bind (f_X2_hasWork pwo w) fun r1 => (if r1 = 0 then (some (-1 : Int32)) else (if i = (0 : Int32) then (Option.bind (f_X2_workSquareOf pwsq w) fun r5 => (some r5)) else (if i = (1 : Int32) then (Option.bind (f_X2_workHourOf pwhr w) fun r8 => (some r8)) else (if i = (2 : Int32) then (Option.bind (f_X1_isDone qdone w) fun r11 => (if r11 = 0 then (some (0 : Int32)) else (some (1 : Int32)))) else (some (-1 : Int32)))))))

def rm_X7_work : Room := { frames := 2, cells := 0, slots := 0, locals := 42 }

theorem pd_X7_work : yX7_work.cls ≠ "java/lang/invoke/MethodHandle" ∧ yX7_work.cls ≠ "java/lang/invoke/VarHandle" ∧ (parseMethodDescriptor yX7_work.desc).map (fun d => d.parameters.length) = some 2 := by decide +kernel

set_option maxHeartbeats 4000000 in
set_option maxRecDepth 100000 in
theorem c_X7_work (l : Launch) (D : va_G) (cI cC cM : ClassId) (ax ap apk apq apr aq aqh aqw aqs aqu ay ar aj az ak ae ad : Nat) (psq : Int32) (ppa : Int32) (ppe : Int32) (pwo : Int32) (pkind : (Nat → Int32)) (pwsq : (Nat → Int32)) (pwhr : (Nat → Int32)) (qgone : Int32) (qmet : Int32) (qstill : Int32) (qdone : Int32) (qhour : (Nat → Int32)) (qworn : (Nat → Int32)) (qsquare : (Nat → Int32)) (qunder : (Nat → Int32)) (w : Int32) (i : Int32) (rr : Int32) (hF : f_X7_work pwo pwsq pwhr qdone w i = some rr) : CI l D cI cC cM yX7_work wsX7_work rm_X7_work [.ref ax, .int w, .int i] [(ax, .inr (7, [.ref ay, .ref ar, .ref ap, .ref aq, .ref aj, .ref az, .ref ak, .ref ae, .ref ad])), (ap, .inr (2, [.int psq, .int ppa, .int ppe, .int pwo, .ref apk, .ref apq, .ref apr])), (apk, .inl (cI, 6, .inl pkind)), (apq, .inl (cI, 6, .inl pwsq)), (apr, .inl (cI, 6, .inl pwhr)), (aq, .inr (1, [.ref ap, .int qgone, .int qmet, .int qstill, .int qdone, .ref aqh, .ref aqw, .ref aqs, .ref aqu])), (aqh, .inl (cI, 6, .inl qhour)), (aqw, .inl (cI, 6, .inl qworn)), (aqs, .inl (cI, 5, .inl qsquare)), (aqu, .inl (cI, 5, .inl qunder))] [(ax, .inr (7, [.ref ay, .ref ar, .ref ap, .ref aq, .ref aj, .ref az, .ref ak, .ref ae, .ref ad])), (ap, .inr (2, [.int psq, .int ppa, .int ppe, .int pwo, .ref apk, .ref apq, .ref apr])), (apk, .inl (cI, 6, .inl pkind)), (apq, .inl (cI, 6, .inl pwsq)), (apr, .inl (cI, 6, .inl pwhr)), (aq, .inr (1, [.ref ap, .int qgone, .int qmet, .int qstill, .int qdone, .ref aqh, .ref aqw, .ref aqs, .ref aqu])), (aqh, .inl (cI, 6, .inl qhour)), (aqw, .inl (cI, 6, .inl qworn)), (aqs, .inl (cI, 5, .inl qsquare)), (aqu, .inl (cI, 5, .inl qunder))] rr := by
  refine CI.of (cc := cX7_work) (nL := 3) (ret := (some .int)) (by decide) rfl (Nat.le_of_ble_eq_true rfl) ?_
  intro p e s m args below meth c A hC hP hD hS ls hl
  obtain ⟨hx, hb, hml, hown, hts, hr, hlk, hG, hA⟩ := id hC
  have hown : s.vm.findClass RX7 = some m.cls := hown
  have hK := hG.1
  have hl : lv_has ls 3 [(0, .ref ax), (1, .int w), (2, .int i)] := hl
  have k_f26 := hts (.fieldLink RX7 26 "ParasolHours" "plan" "LParasolHours$Plan;") (List.mem_of_getElem? (i := 1) rfl)
  have k_f35 := hts (.fieldLink RX7 35 "ParasolHours" "now" "LParasolHours$Moment;") (List.mem_of_getElem? (i := 2) rfl)
  have iX7 : ∀ w ∈ wsX70, w ∈ wsX7_work := by decide +kernel
  obtain ⟨Q, hQ⟩ : ∃ Q, Q = MQ below (QI D [(ax, .inr (7, [.ref ay, .ref ar, .ref ap, .ref aq, .ref aj, .ref az, .ref ak, .ref ae, .ref ad])), (ap, .inr (2, [.int psq, .int ppa, .int ppe, .int pwo, .ref apk, .ref apq, .ref apr])), (apk, .inl (cI, 6, .inl pkind)), (apq, .inl (cI, 6, .inl pwsq)), (apr, .inl (cI, 6, .inl pwhr)), (aq, .inr (1, [.ref ap, .int qgone, .int qmet, .int qstill, .int qdone, .ref aqh, .ref aqw, .ref aqs, .ref aqu])), (aqh, .inl (cI, 6, .inl qhour)), (aqw, .inl (cI, 6, .inl qworn)), (aqs, .inl (cI, 5, .inl qsquare)), (aqu, .inl (cI, 5, .inl qunder))] rr A) args s 0 0 A := ⟨_, rfl⟩
  rw [← hQ]
  unfold f_X7_work at hF
  refine lv_aload_n hx hb dX7_work_0 rfl (lv_at hl 0 rfl) ?_
  refine va_get (D := D) (ci := 7) (v := .ref ap) (C := RX7) (T := TX7) (N := 9) hx hb hts iX7 hown hK hP 0 rfl rfl 2 (by decide) k_f26 (fun _ h9 => h9) rfl dX7_work_1 ?_
  refine lv_iload_n hx hb dX7_work_4 rfl (lv_at hl 1 rfl) ?_
  obtain ⟨r1, hb2, hF⟩ := op_bind hF
  refine xVr (As := [.int w]) (rest := []) hC hP hD hS [1, 2, 3, 4] (c_X2_hasWork l D cI cC cM ap apk apq apr psq ppa ppe pwo pkind pwsq pwhr w r1 hb2) (cwV 1 hts gX7_work_X2_hasWork rfl rfl rfl ⟨rfl, pd_X2_hasWork⟩ ⟨Nat.le_of_ble_eq_true rfl, Nat.le_of_ble_eq_true rfl⟩) rfl rfl 1 2 rfl rfl rfl rfl hl.1 rfl (Nat.le_of_ble_eq_true rfl) dX7_work_5 ⟨Nat.zero_le _, Nat.zero_le _⟩ (fun H locs hP hS => ?_)
  refine lv_if_ne (tgt := 13) hx hb dX7_work_8 (by decide) (fun c3 => ?_) (fun c3 => ?_)
  · have hF := op_neg c3 hF
    refine lv_iload_n hx hb dX7_work_13 rfl (lv_at hl 2 rfl) ?_
    by_cases c4 : i = (0 : Int32)
    · have hF := op_pos c4 hF
      refine lv_tableIn (x := i) (off := 26) (tgt := 40) hx hb dX7_work_14 (by rw [c4]; decide) (by rw [c4]; decide) (by rw [c4]; rfl) (by decide) ?_
      refine lv_aload_n hx hb dX7_work_40 rfl (lv_at hl 0 rfl) ?_
      refine va_get (D := D) (ci := 7) (v := .ref ap) (C := RX7) (T := TX7) (N := 9) hx hb hts iX7 hown hK hP 0 rfl rfl 2 (by decide) k_f26 (fun _ h9 => h9) rfl dX7_work_41 ?_
      refine lv_iload_n hx hb dX7_work_44 rfl (lv_at hl 1 rfl) ?_
      obtain ⟨r5, hb6, hF⟩ := op_bind hF
      refine xVr (As := [.int w]) (rest := []) hC hP hD hS [1, 2, 3, 4] (c_X2_workSquareOf l D cI cC cM ap apk apq apr psq ppa ppe pwo pkind pwsq pwhr w r5 hb6) (cwV 1 hts gX7_work_X2_workSquareOf rfl rfl rfl ⟨rfl, pd_X2_workSquareOf⟩ ⟨Nat.le_of_ble_eq_true rfl, Nat.le_of_ble_eq_true rfl⟩) rfl rfl 1 2 rfl rfl rfl rfl hl.1 rfl (Nat.le_of_ble_eq_true rfl) dX7_work_45 ⟨Nat.zero_le _, Nat.zero_le _⟩ (fun H locs hP hS => ?_)
      cases hF
      rw [hQ]
      exact xri hC hP hS dX7_work_48
    · have hF := op_neg c4 hF
      by_cases c7 : i = (1 : Int32)
      · have hF := op_pos c7 hF
        refine lv_tableIn (x := i) (off := 35) (tgt := 49) hx hb dX7_work_14 (by rw [c7]; decide) (by rw [c7]; decide) (by rw [c7]; rfl) (by decide) ?_
        refine lv_aload_n hx hb dX7_work_49 rfl (lv_at hl 0 rfl) ?_
        refine va_get (D := D) (ci := 7) (v := .ref ap) (C := RX7) (T := TX7) (N := 9) hx hb hts iX7 hown hK hP 0 rfl rfl 2 (by decide) k_f26 (fun _ h9 => h9) rfl dX7_work_50 ?_
        refine lv_iload_n hx hb dX7_work_53 rfl (lv_at hl 1 rfl) ?_
        obtain ⟨r8, hb9, hF⟩ := op_bind hF
        refine xVr (As := [.int w]) (rest := []) hC hP hD hS [1, 2, 3, 4] (c_X2_workHourOf l D cI cC cM ap apk apq apr psq ppa ppe pwo pkind pwsq pwhr w r8 hb9) (cwV 1 hts gX7_work_X2_workHourOf rfl rfl rfl ⟨rfl, pd_X2_workHourOf⟩ ⟨Nat.le_of_ble_eq_true rfl, Nat.le_of_ble_eq_true rfl⟩) rfl rfl 1 2 rfl rfl rfl rfl hl.1 rfl (Nat.le_of_ble_eq_true rfl) dX7_work_54 ⟨Nat.zero_le _, Nat.zero_le _⟩ (fun H locs hP hS => ?_)
        cases hF
        rw [hQ]
        exact xri hC hP hS dX7_work_57
      · have hF := op_neg c7 hF
        by_cases c10 : i = (2 : Int32)
        · have hF := op_pos c10 hF
          refine lv_tableIn (x := i) (off := 44) (tgt := 58) hx hb dX7_work_14 (by rw [c10]; decide) (by rw [c10]; decide) (by rw [c10]; rfl) (by decide) ?_
          refine lv_aload_n hx hb dX7_work_58 rfl (lv_at hl 0 rfl) ?_
          refine va_get (D := D) (ci := 7) (v := .ref aq) (C := RX7) (T := TX7) (N := 9) hx hb hts iX7 hown hK hP 0 rfl rfl 3 (by decide) k_f35 (fun _ h9 => h9) rfl dX7_work_59 ?_
          refine lv_iload_n hx hb dX7_work_62 rfl (lv_at hl 1 rfl) ?_
          obtain ⟨r11, hb12, hF⟩ := op_bind hF
          refine xVr (As := [.int w]) (rest := []) hC hP hD hS [5, 6, 7, 8, 9, 1, 2, 3, 4] (c_X1_isDone l D cI cC cM aq aqh aqw aqs aqu ap apk apq apr qgone qmet qstill qdone qhour qworn qsquare qunder psq ppa ppe pwo pkind pwsq pwhr w r11 hb12) (cwV 1 hts gX7_work_X1_isDone rfl rfl rfl ⟨rfl, pd_X1_isDone⟩ ⟨Nat.le_of_ble_eq_true rfl, Nat.le_of_ble_eq_true rfl⟩) rfl rfl 5 1 rfl rfl rfl rfl hl.1 rfl (Nat.le_of_ble_eq_true rfl) dX7_work_63 ⟨Nat.zero_le _, Nat.zero_le _⟩ (fun H locs hP hS => ?_)
          refine lv_if_eq (tgt := 73) hx hb dX7_work_66 (by decide) (fun c13 => ?_) (fun c13 => ?_)
          · have hF := op_pos c13 hF
            refine lv_iconst (v := (0 : Int32)) hx hb dX7_work_73 (by decide) ?_
            cases hF
            rw [hQ]
            exact xri hC hP hS dX7_work_74
          · have hF := op_neg c13 hF
            refine lv_iconst (v := (1 : Int32)) hx hb dX7_work_69 (by decide) ?_
            refine lv_goto (tgt := 74) hx hb dX7_work_70 (by decide) ?_
            cases hF
            rw [hQ]
            exact xri hC hP hS dX7_work_74
        · have hF := op_neg c10 hF
          refine lv_tableOut (x := i) (tgt := 75) hx hb dX7_work_14 (by have n0 := lv_neT (a := 0) c4 rfl; have n1 := lv_neT (a := 1) c7 rfl; have n2 := lv_neT (a := 2) c10 rfl; omega) (by decide) ?_
          refine lv_iconst (v := (-1 : Int32)) hx hb dX7_work_75 (by decide) ?_
          cases hF
          rw [hQ]
          exact xri hC hP hS dX7_work_76
  · have hF := op_pos c3 hF
    refine lv_iconst (v := (-1 : Int32)) hx hb dX7_work_11 (by decide) ?_
    cases hF
    rw [hQ]
    exact xri hC hP hS dX7_work_12
