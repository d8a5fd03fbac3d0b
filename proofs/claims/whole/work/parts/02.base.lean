/-! what every method's contract stands on: the tables' words, the array class of ints, the links between nest mates -/
def nestOK : Cond → Bool
  | .fieldLinkNest .. => true
  | .methodLinkNest .. => true
  | _ => false
def gw : List Cond := lw_tbl.filter goodWord
theorem gw_in {w : Cond} (i : Nat) (h : lw_tbl[i]? = some w) (hg : goodWord w = true) : w ∈ gw := List.mem_filter.mpr ⟨List.mem_of_getElem? h, hg⟩
theorem tb_in {w : Cond} (i : Nat) (h : lw_tbl[i]? = some w) : w ∈ lw_tbl := List.mem_of_getElem? h
theorem gw_tb {w : Cond} (h : w ∈ gw) : w ∈ lw_tbl := (List.mem_filter.mp h).1
theorem gw_good {w : Cond} (h : w ∈ gw) : goodWord w = true := (List.mem_filter.mp h).2
theorem gd {w : Cond} (h : w ∈ gw) : GoodIn gw (w :: gw) := by
  intro x hx
  rcases List.mem_cons.mp hx with rfl | hx
  · exact ⟨h, good_of_word (gw_good h)⟩
  · exact ⟨hx, good_of_word (gw_good hx)⟩
theorem nw_warm {w : Cond} (hn : nestOK w = true) {s U : State} (hW : s.WarmedH U.vm) (h : va_Nw w s) : va_Nw w U := by
  cases w <;> first | exact va_Nw.warmF hW h | exact va_Nw.warmM hW h | (simp [nestOK] at hn)
theorem nw_tab {w : Cond} (hn : nestOK w = true) : w.onTables = true := by
  cases w <;> first | rfl | (simp [nestOK] at hn)
def EV (D : va_G) (cI cZ : ClassId) (U : State) : Prop := va_K D classes [(cI, .int), (cZ, .boolean)] U ∧ ∀ w ∈ lw_tbl, nestOK w = true → va_Nw w U
theorem EV.moved {D : va_G} {cI cZ : ClassId} {s U : State} (h : EV D cI cZ s) (hW : s.WarmedH U.vm) : EV D cI cZ U := ⟨va_K.moved hW.alike h.1, fun w hw hn => nw_warm hn hW (h.2 w hw hn)⟩
theorem EV.calling {D : va_G} {cI cZ : ClassId} {U : State} {g : JFrame} {mk : MethodId} {a : Array Value} (h : EV D cI cZ U) : EV D cI cZ (U.calling g mk a) := ⟨va_K.moved (u := U) (U := U.calling g mk a) (Vm.Alike.refl U.vm) h.1, fun w hw hn => va_Nw.same (nw_tab hn) (u := U) (U := U.calling g mk a) rfl (h.2 w hw hn)⟩
/-- what a walk of a method has in hand -/
def CX (p : Program) (s : State) (m : MethodId) (args : Array Value) (meth : Method) (c : Code) (own : String) (cc : ByteArray) (nL : Nat) (ret : Option FieldType) (D : va_G) (cI cZ : ClassId) : Prop :=
  p.tables.exec = Jvm.exec ∧ c.code = cc ∧ meth.sig.returnType = ret ∧ c.maxLocals = nL ∧ s.vm.findClass own = some m.cls ∧ (∀ w ∈ gw, w.before args s = true) ∧ meth.locks = false ∧ EV D cI cZ s
theorem CX.of {p : Program} {l : Launch} {y : MethodName} {rm : Room} {cc : ByteArray} {nL : Nat} {ret : Option FieldType} {e : Env} {s : State} {m : MethodId} {args : Array Value} {below : List Frame} {meth : Method} {c : Code} {s₁ : State} {own : String} {D : va_G} {cI cZ : ClassId}
    (B : BodyLoose p l y (headSpec (Cond.code y cc nL ret :: gw) rm) cc nL ret e s m args below meth c s₁) (hml : c.maxLocals = nL) (hy : y.cls = own) (hE : EV D cI cZ s) : CX p s m args meth c own cc nL ret D cI cZ := by
  subst hy
  exact ⟨B.exec, B.bytes, B.returns, hml, findClass_of_methodNamed B.named, fun w hw => atoms_spec (ws := Cond.code y cc nL ret :: gw) B.pre w (List.mem_cons_of_mem _ hw), B.notSynchronized, hE⟩
theorem nar_b {x : Int32} (h : x = 0 ∨ x = 1) : narrow .boolean (.int x) = .int x := by
  rcases h with rfl | rfl <;> rfl
section KEY
variable {p : Program} {l : Launch} {e : Env} {R : Room} {s : State} {m : MethodId} {args : Array Value} {below : List Frame} {meth : Method} {c : Code} {cells slots : Nat} {Q : State → Prop} {g : JFrame}
theorem keyL {P : Heap → List Loc → Prop} {H0 : Heap} {L0 : List Loc} (h : P H0 L0) (k : ∀ (H : Heap) (locs : List Loc), P H locs → W p l e R s m args below meth c H locs cells slots Q g) : W p l e R s m args below meth c H0 L0 cells slots Q g := k _ _ h
theorem cB {own : String} {index : Nat} {y : MethodName} {bytes : ByteArray} {maxL : Nat} {ret : Option FieldType} {rm : Room} (n : Nat) (ht : ∀ w ∈ gw, w.before args s = true) (hco : Cond.code y bytes maxL ret ∈ gw) (hini : Cond.initialized y.cls ∈ gw) (hl : Cond.methodLink own index y ∈ gw)
    (hd : y.cls ≠ "java/lang/invoke/MethodHandle" ∧ y.cls ≠ "java/lang/invoke/VarHandle" ∧ (parseMethodDescriptor y.desc).map (fun d => d.parameters.length) = some n) (hR : rm.frames + 1 ≤ R.frames ∧ 8 + (maxL + 11) + rm.locals ≤ R.locals) :
    CallB R s args own index y bytes maxL ret (Cond.code y bytes maxL ret :: gw) rm rm.cells rm.slots n := callB_of n ht (gd hco) rfl rfl rfl (ht _ hini) (ht _ hl) hd hR
theorem cN {own host : String} {index : Nat} {y : MethodName} {bytes : ByteArray} {maxL : Nat} {ret : Option FieldType} {rm : Room} {D : va_G} {cI cZ : ClassId} (n : Nat) (ht : ∀ w ∈ gw, w.before args s = true) (hE : EV D cI cZ s) (hco : Cond.code y bytes maxL ret ∈ gw) (hini : Cond.initialized y.cls ∈ gw) (hl : Cond.methodLinkNest own index y host ∈ lw_tbl)
    (hd : y.cls ≠ "java/lang/invoke/MethodHandle" ∧ y.cls ≠ "java/lang/invoke/VarHandle" ∧ (parseMethodDescriptor y.desc).map (fun d => d.parameters.length) = some n) (hR : rm.frames + 1 ≤ R.frames ∧ 8 + (maxL + 11) + rm.locals ≤ R.locals) :
    va_CN R s args own index y host bytes maxL ret (Cond.code y bytes maxL ret :: gw) rm rm.cells rm.slots n := va_cnB n ht (gd hco) rfl rfl rfl (hE.2 _ hl rfl) (ht _ hini) hd hR
end KEY
section PRE
variable {D : va_G} {cI cZ : ClassId} {s : State} {H : Heap} {As : List Value} {WS : va_W} {b : Nat} {C : String}
theorem blindRO : FrameBlind (va_Pc As (fun U => EV D cI cZ U ∧ va_P D classes WS U.heap)) := fun _ _ _ _ q => ⟨q.1, q.2.1.calling, q.2.2⟩
theorem blindMU {sz : Nat} : FrameBlind (va_Pc As (fun U => U.heap.size = sz ∧ EV D cI cZ U ∧ va_P D classes WS U.heap ∧ va_D (fun _ => True) WS)) := fun _ _ _ _ q => ⟨q.1, q.2.1, q.2.2.1.calling, q.2.2.2⟩
theorem preS_ro (hE : EV D cI cZ s) (hP : va_P D classes WS H) : PreS s H (va_Pc As (fun U => EV D cI cZ U ∧ va_P D classes WS U.heap)) As := ⟨blindRO, fun U hU hW => ⟨rfl, hE.moved hW, by rw [hU]; exact hP⟩⟩
theorem preV_ro (hE : EV D cI cZ s) (hP : va_P D classes WS H) (hr : ∃ cell : Cell, H[b]? = some cell ∧ cell.vm.isStatics = false ∧ s.vm.findClass C = some cell.cls) : PreV s H C b (va_Pc (.ref b :: As) (fun U => EV D cI cZ U ∧ va_P D classes WS U.heap)) As := ⟨blindRO, hr, fun U hU hW => ⟨rfl, hE.moved hW, by rw [hU]; exact hP⟩⟩
theorem preS_mu {A : Nat → Prop} (hE : EV D cI cZ s) (hP : va_P D classes WS H) (hD : va_D A WS) : PreS s H (va_Pc As (fun U => U.heap.size = H.size ∧ EV D cI cZ U ∧ va_P D classes WS U.heap ∧ va_D (fun _ => True) WS)) As := ⟨blindMU, fun U hU hW => ⟨rfl, by rw [hU], hE.moved hW, by rw [hU]; exact hP, hD.weaken (fun _ _ _ _ => trivial)⟩⟩
theorem preI_mu {A : Nat → Prop} (hE : EV D cI cZ s) (hP : va_P D classes WS H) (hD : va_D A WS) : PreS s H (va_Pc As (fun U => U.heap.size = H.size ∧ EV D cI cZ U ∧ va_P D classes WS U.heap ∧ va_D (fun _ => True) WS)) As := preS_mu hE hP hD
theorem preV_mu {A : Nat → Prop} (hE : EV D cI cZ s) (hP : va_P D classes WS H) (hD : va_D A WS) (hr : ∃ cell : Cell, H[b]? = some cell ∧ cell.vm.isStatics = false ∧ s.vm.findClass C = some cell.cls) : PreV s H C b (va_Pc (.ref b :: As) (fun U => U.heap.size = H.size ∧ EV D cI cZ U ∧ va_P D classes WS U.heap ∧ va_D (fun _ => True) WS)) As := ⟨blindMU, hr, fun U hU hW => ⟨rfl, by rw [hU], hE.moved hW, by rw [hU]; exact hP, hD.weaken (fun _ _ _ _ => trivial)⟩⟩
end PRE
theorem sameI {D : va_G} {s : State} {cI cZ cA : ClassId} (h : va_K D classes ([(cI, .int), (cZ, .boolean)] ++ [(cA, .int)]) s) : cI = cA := by
  have h1 := va_nm_int (h.2 0 _ rfl).2
  have h2 := va_nm_int (h.2 2 _ rfl).2
  exact Option.some.inj (h1.symm.trans h2)
theorem sameZ {D : va_G} {s : State} {cI cZ cA : ClassId} (h : va_K D classes ([(cI, .int), (cZ, .boolean)] ++ [(cA, .boolean)]) s) : cZ = cA := by
  have h1 := va_nm_boolean (h.2 1 _ rfl).2
  have h2 := va_nm_boolean (h.2 2 _ rfl).2
  exact Option.some.inj (h1.symm.trans h2)
