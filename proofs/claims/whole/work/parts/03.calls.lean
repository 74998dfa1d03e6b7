section GC
variable {p : Program} {l : Launch} {e : Env} {R : Room} {s : State} {m : MethodId} {args : Array Value} {below : List Frame} {meth : Method} {c : Code} {H : Heap} {locs : List Loc} {cells slots : Nat} {Q : State → Prop}
variable {cc bytes : ByteArray} {pc : Nat} {ls : Array Slot} {rest st0 As : List Value} {D : va_G} {cl : List vw_C} {A : Nat → Prop} {a b : Nat} {z z1 : gS} {nn : List Cond} {oo : List String}
variable {y : MethodName} {maxL nL mc ms n index : Nat} {ret : Option FieldType} {ws Ts : List Cond} {rm : Room} {Qc : Array Value → State → Outcome → State → Prop} {own C host : String}
theorem g_preS {av : List Value} (hK : g_K D cl nn oo s) (hW : g_W D cl A z s H) (hS : va_S A s.heap H locs) (hA : ∀ q : Nat, s.heap.size ≤ q → A q) : PreS s H (g_P D cl nn oo A z av) av := by
  refine ⟨g_P.blind, fun U hU hw => ⟨rfl, ?_, hK.warm hw, fun q hq => hA q (Nat.le_trans hS.1 (by rw [hW.1]; exact hq))⟩⟩
  rw [hU]
  exact hW.moved hw.alike
theorem g_recv {ci : Nat} {q : vw_C} (hK : g_K D cl nn oo s) (hW : g_W D cl A z s H) (hc : cl[ci]? = some q) (hi : g_is z b ci = some ()) : ∃ cell : Cell, H[b]? = some cell ∧ cell.vm.isStatics = false ∧ s.vm.findClass q.1 = some cell.cls := by
  obtain ⟨fs, h6, -⟩ := g_bd hi
  exact va_recv hK.1 (g_P1 (q := (b, .inr (ci, fs))) (hW.2 b _ (g_o_spec h6)).2) hc (q0 := 0) rfl
theorem g_rV (S : CallFix p m c cc nL s args Ts own) (hM : Met l y ws rm (g_P D cl nn oo A z (.ref b :: As)) Qc mc ms A) (cw : CallW R s args own C index y bytes maxL ret ws rm mc ms n) (hK : g_K D cl nn oo s) (hW : g_W D cl A z s H) (hS : va_S A s.heap H locs) (hA : ∀ q : Nat, s.heap.size ≤ q → A q) {ci N : Nat} {T : u_T} (hc : cl[ci]? = some (C, T, N)) (hi : g_is z b ci = some ())
    (hn : As.length = n) (hsize : ls.size = nL) (hstack : st0 = As.reverse ++ .ref b :: rest) (hR : (rest.map fun v => v.category).sum ≤ 8) (hdg : decode cc pc = .ok (.invokevirtual index, 3)) (hf : cells + mc ≤ R.cells ∧ slots + ms ≤ R.slots) :
    va_Run p l e R s m args below meth c H locs cells slots mc ms (F0 m pc ls st0) rest (Qc (Value.ref b :: As).toArray) A :=
  va_runV S hM cw ⟨(g_preS hK hW hS hA).1, g_recv hK hW hc hi, (g_preS hK hW hS hA).2⟩ rfl hn hsize hstack (lv_room hR) hdg hf
theorem g_rVN (S : CallFix p m c cc nL s args Ts own) (hM : Met l y ws rm (g_P D cl nn oo A z (.ref b :: As)) Qc mc ms A) (cw : va_CN R s args own index y host bytes maxL ret ws rm mc ms n ∧ (Cond.instanceMethod y).before args s = true ∧ (Cond.selects C y y).before args s = true) (hK : g_K D cl nn oo s) (hW : g_W D cl A z s H) (hS : va_S A s.heap H locs) (hA : ∀ q : Nat, s.heap.size ≤ q → A q) {ci N : Nat} {T : u_T} (hc : cl[ci]? = some (C, T, N)) (hi : g_is z b ci = some ())
    (hn : As.length = n) (hsize : ls.size = nL) (hstack : st0 = As.reverse ++ .ref b :: rest) (hR : (rest.map fun v => v.category).sum ≤ 8) (hdg : decode cc pc = .ok (.invokevirtual index, 3)) (hf : cells + mc ≤ R.cells ∧ slots + ms ≤ R.slots) :
    va_Run p l e R s m args below meth c H locs cells slots mc ms (F0 m pc ls st0) rest (Qc (Value.ref b :: As).toArray) A :=
  va_runVN S hM cw ⟨(g_preS hK hW hS hA).1, g_recv hK hW hc hi, (g_preS hK hW hS hA).2⟩ rfl hn hsize hstack (lv_room hR) hdg hf
theorem g_rS (S : CallFix p m c cc nL s args Ts own) (hM : Met l y ws rm (g_P D cl nn oo A z As) Qc mc ms A) (cw : CallB R s args own index y bytes maxL ret ws rm mc ms n ∧ (Cond.static y).before args s = true) (hK : g_K D cl nn oo s) (hW : g_W D cl A z s H) (hS : va_S A s.heap H locs) (hA : ∀ q : Nat, s.heap.size ≤ q → A q)
    (hn : As.length = n) (hsize : ls.size = nL) (hstack : st0 = As.reverse ++ rest) (hR : (rest.map fun v => v.category).sum ≤ 8) (hdg : decode cc pc = .ok (.invokestatic index, 3)) (hf : cells + mc ≤ R.cells ∧ slots + ms ≤ R.slots) :
    va_Run p l e R s m args below meth c H locs cells slots mc ms (F0 m pc ls st0) rest (Qc As.toArray) A :=
  va_runS S hM cw (g_preS hK hW hS hA) rfl hn hsize hstack (lv_room hR) hdg hf
theorem g_rSN (S : CallFix p m c cc nL s args Ts own) (hM : Met l y ws rm (g_P D cl nn oo A z As) Qc mc ms A) (cw : va_CN R s args own index y host bytes maxL ret ws rm mc ms n ∧ (Cond.static y).before args s = true ∧ True) (hK : g_K D cl nn oo s) (hW : g_W D cl A z s H) (hS : va_S A s.heap H locs) (hA : ∀ q : Nat, s.heap.size ≤ q → A q)
    (hn : As.length = n) (hsize : ls.size = nL) (hstack : st0 = As.reverse ++ rest) (hR : (rest.map fun v => v.category).sum ≤ 8) (hdg : decode cc pc = .ok (.invokestatic index, 3)) (hf : cells + mc ≤ R.cells ∧ slots + ms ≤ R.slots) :
    va_Run p l e R s m args below meth c H locs cells slots mc ms (F0 m pc ls st0) rest (Qc As.toArray) A :=
  va_runSN S hM cw (g_preS hK hW hS hA) rfl hn hsize hstack (lv_room hR) hdg hf
theorem g_rI (S : CallFix p m c cc nL s args Ts own) (hM : Met l y ws rm (g_P D cl nn oo A z (.ref b :: As)) Qc mc ms A) (cw : CallB R s args own index y bytes maxL none ws rm mc ms n ∧ y.name = "<init>" ∧ (Cond.instanceMethod y).before args s = true) (hK : g_K D cl nn oo s) (hW : g_W D cl A z s H) (hS : va_S A s.heap H locs) (hA : ∀ q : Nat, s.heap.size ≤ q → A q)
    (hn : As.length = n) (hsize : ls.size = nL) (hstack : st0 = As.reverse ++ .ref b :: rest) (hR : (rest.map fun v => v.category).sum ≤ 8) (hdg : decode cc pc = .ok (.invokespecial index, 3)) (hf : cells + mc ≤ R.cells ∧ slots + ms ≤ R.slots) :
    va_Run p l e R s m args below meth c H locs cells slots mc ms (F0 m pc ls st0) rest (Qc (Value.ref b :: As).toArray) A :=
  va_runI S hM cw (g_preS hK hW hS hA) rfl hn hsize hstack (lv_room hR) hdg hf
theorem g_rIN (S : CallFix p m c cc nL s args Ts own) (hM : Met l y ws rm (g_P D cl nn oo A z (.ref b :: As)) Qc mc ms A) (cw : va_CN R s args own index y host bytes maxL none ws rm mc ms n ∧ y.name = "<init>" ∧ (Cond.instanceMethod y).before args s = true) (hK : g_K D cl nn oo s) (hW : g_W D cl A z s H) (hS : va_S A s.heap H locs) (hA : ∀ q : Nat, s.heap.size ≤ q → A q)
    (hn : As.length = n) (hsize : ls.size = nL) (hstack : st0 = As.reverse ++ .ref b :: rest) (hR : (rest.map fun v => v.category).sum ≤ 8) (hdg : decode cc pc = .ok (.invokespecial index, 3)) (hf : cells + mc ≤ R.cells ∧ slots + ms ≤ R.slots) :
    va_Run p l e R s m args below meth c H locs cells slots mc ms (F0 m pc ls st0) rest (Qc (Value.ref b :: As).toArray) A :=
  va_runIN S hM cw (g_preS hK hW hS hA) rfl hn hsize hstack (lv_room hR) hdg hf
theorem g_goi {av : Array Value} {r : Int32} (hr : va_Run p l e R s m args below meth c H locs cells slots mc ms (F0 m pc ls st0) rest (g_Qi D cl A r z1 av) A) (hS : va_S A s.heap H locs)
    (kk : ∀ (H1 : Heap) (locs1 : List Loc), g_W D cl A z1 s H1 → va_S A s.heap H1 locs1 → W p l e R s m args below meth c H1 locs1 (cells + mc) (slots + ms) Q (F0 m (pc + 3) ls (.int r :: rest))) : W p l e R s m args below meth c H locs cells slots Q (F0 m pc ls st0) := by
  refine va_calli hr hS (fun q _ h => h) (fun q h => h) (fun r1 u t H1 locs1 ht hvm hw hB hz1 hk1 hS1 => ?_)
  subst hw
  rw [ht] at hB
  exact kk H1 locs1 (hB.moved hvm.symm) hS1
theorem g_gov {av : Array Value} (hr : va_Run p l e R s m args below meth c H locs cells slots mc ms (F0 m pc ls st0) rest (g_Qv D cl A z1 av) A) (hS : va_S A s.heap H locs)
    (kk : ∀ (H1 : Heap) (locs1 : List Loc), g_W D cl A z1 s H1 → va_S A s.heap H1 locs1 → W p l e R s m args below meth c H1 locs1 (cells + mc) (slots + ms) Q (F0 m (pc + 3) ls rest)) : W p l e R s m args below meth c H locs cells slots Q (F0 m pc ls st0) := by
  refine va_callv hr hS (fun q _ h => h) (fun q h => h) (fun u t H1 locs1 ht hvm hw hB hz1 hk1 hS1 => ?_)
  rw [ht] at hB
  exact kk H1 locs1 (hB.moved hvm.symm) hS1
theorem g_goq {av : Array Value} {r : Option Nat} (hr : va_Run p l e R s m args below meth c H locs cells slots mc ms (F0 m pc ls st0) rest (g_Qq D cl A r z1 av) A) (hS : va_S A s.heap H locs)
    (kk : ∀ (H1 : Heap) (locs1 : List Loc), g_W D cl A z1 s H1 → va_S A s.heap H1 locs1 → W p l e R s m args below meth c H1 locs1 (cells + mc) (slots + ms) Q (F0 m (pc + 3) ls (va_rf r :: rest))) : W p l e R s m args below meth c H locs cells slots Q (F0 m pc ls st0) := by
  refine va_callq hr hS (fun q _ h => h) (fun q h => h) (fun r1 u t H1 locs1 ht hvm hw hB hz1 hk1 hS1 => ?_)
  subst hw
  rw [ht] at hB
  exact kk H1 locs1 (hB.moved hvm.symm) hS1
/-- the ends -/
theorem g_reti {v : Int32} (hexec : p.tables.exec = Jvm.exec) (hb : c.code = cc) (hr : meth.sig.returnType = some .int) (hlocks : meth.locks = false) (hW : g_W D cl A z s H) (hS : va_S A s.heap H locs) (h1 : cells ≤ mc) (h2 : slots ≤ ms) (hdg : decode cc pc = .ok (.ireturn, 1)) : W p l e R s m args below meth c H locs cells slots (MQ below (g_Qi D cl A v z) args s mc ms A) (F0 m pc ls [.int v]) := by
  refine W.widen h1 h2 (W.iret hexec hb hr (fun t ht hw => ⟨⟨v, (), rfl, rfl, ?_⟩, hS.F ht⟩) hS.2.2 hdg hlocks)
  show g_W D cl A z t t.heap
  rw [ht]
  exact hW.moved hw.alike
theorem g_retz {v : Int32} {ty : FieldType} (hexec : p.tables.exec = Jvm.exec) (hb : c.code = cc) (hr : meth.sig.returnType = some ty) (hn : narrow ty (.int v) = .int v) (hlocks : meth.locks = false) (hW : g_W D cl A z s H) (hS : va_S A s.heap H locs) (h1 : cells ≤ mc) (h2 : slots ≤ ms) (hdg : decode cc pc = .ok (.ireturn, 1)) : W p l e R s m args below meth c H locs cells slots (MQ below (g_Qi D cl A v z) args s mc ms A) (F0 m pc ls [.int v]) := by
  refine W.widen h1 h2 (W.zret hexec hb hr hn (fun t ht hw => ⟨⟨v, (), rfl, rfl, ?_⟩, hS.F ht⟩) hS.2.2 hdg hlocks)
  show g_W D cl A z t t.heap
  rw [ht]
  exact hW.moved hw.alike
theorem g_retv (hexec : p.tables.exec = Jvm.exec) (hb : c.code = cc) (hr : meth.sig.returnType = none) (hlocks : meth.locks = false) (hW : g_W D cl A z s H) (hS : va_S A s.heap H locs) (h1 : cells ≤ mc) (h2 : slots ≤ ms) (hdg : decode cc pc = .ok (.return_, 1)) : W p l e R s m args below meth c H locs cells slots (MQ below (g_Qv D cl A z) args s mc ms A) (F0 m pc ls []) := by
  refine W.widen h1 h2 (W.vret hexec hb hr (fun t ht hw => ⟨⟨(), rfl, trivial, ?_⟩, hS.F ht⟩) hS.2.2 hdg hlocks)
  show g_W D cl A z t t.heap
  rw [ht]
  exact hW.moved hw.alike
theorem g_reta {v : Option Nat} {rt : FieldType} (hexec : p.tables.exec = Jvm.exec) (hb : c.code = cc) (hr : meth.sig.returnType = some rt) (hrt : (∃ n, rt = .object n) ∨ ∃ t, rt = .array t) (hlocks : meth.locks = false) (hW : g_W D cl A z s H) (hS : va_S A s.heap H locs) (h1 : cells ≤ mc) (h2 : slots ≤ ms) (hdg : decode cc pc = .ok (.areturn, 1)) : W p l e R s m args below meth c H locs cells slots (MQ below (g_Qq D cl A v z) args s mc ms A) (F0 m pc ls [va_rf v]) := by
  refine W.widen h1 h2 (W.aret hexec hb hr hrt (va_rf_or v) (fun t ht hw => ⟨⟨v, (), rfl, rfl, ?_⟩, hS.F ht⟩) hS.2.2 hdg hlocks)
  show g_W D cl A z t t.heap
  rw [ht]
  exact hW.moved hw.alike
/-- references that may be null, on the stack and in the locals -/
theorem g_cat (r : Option Nat) : (va_rf r).category = 1 := by cases r <;> rfl
theorem g_aload_n (hexec : p.tables.exec = Jvm.exec) (hb : c.code = cc) {k : Fin 4} {i : Nat} {r : Option Nat} (hdg : decode cc pc = .ok (.aload_n k, 1)) (hi : (k : Nat) = i) (hl : ls[i]? = some (.val (va_rf r)))
    (kk : W p l e R s m args below meth c H locs cells slots Q (F0 m (pc + 1) ls (va_rf r :: rest))) : W p l e R s m args below meth c H locs cells slots Q (F0 m pc ls rest) := by
  cases r with
  | none => exact lv_aload_nN hexec hb hdg hi hl kk
  | some x => exact lv_aload_n hexec hb hdg hi hl kk
theorem g_aload (hexec : p.tables.exec = Jvm.exec) (hb : c.code = cc) {i : Nat} {r : Option Nat} (hdg : decode cc pc = .ok (.aload i, 2)) (hl : ls[i]? = some (.val (va_rf r)))
    (kk : W p l e R s m args below meth c H locs cells slots Q (F0 m (pc + 2) ls (va_rf r :: rest))) : W p l e R s m args below meth c H locs cells slots Q (F0 m pc ls rest) := by
  cases r with
  | none => exact lv_aloadN hexec hb hdg hl kk
  | some x => exact lv_aload hexec hb hdg hl kk
theorem g_astore_n (hexec : p.tables.exec = Jvm.exec) (hb : c.code = cc) {k : Fin 4} {i nL : Nat} {r : Option Nat} {lv lv' : List (Nat × Value)} (hdg : decode cc pc = .ok (.astore_n k, 1)) (hi : (k : Nat) = i) (h : lv_has ls nL lv) (hn : i < nL) (hl : (i, va_rf r) :: lv.filter (fun q => !(q.1 == i) && !(q.1 + 1 == i && q.2.category == 2)) = lv')
    (kk : ∀ ls1 : Array Slot, lv_has ls1 nL lv' → W p l e R s m args below meth c H locs cells slots Q (F0 m (pc + 1) ls1 rest)) : W p l e R s m args below meth c H locs cells slots Q (F0 m pc ls (va_rf r :: rest)) := by
  cases r with
  | none => exact lv_astore_nN hexec hb hdg hi h hn hl kk
  | some x => exact lv_astore_n hexec hb hdg hi h hn hl kk
theorem g_astore (hexec : p.tables.exec = Jvm.exec) (hb : c.code = cc) {i nL : Nat} {r : Option Nat} {lv lv' : List (Nat × Value)} (hdg : decode cc pc = .ok (.astore i, 2)) (h : lv_has ls nL lv) (hn : i < nL) (hl : (i, va_rf r) :: lv.filter (fun q => !(q.1 == i) && !(q.1 + 1 == i && q.2.category == 2)) = lv')
    (kk : ∀ ls1 : Array Slot, lv_has ls1 nL lv' → W p l e R s m args below meth c H locs cells slots Q (F0 m (pc + 2) ls1 rest)) : W p l e R s m args below meth c H locs cells slots Q (F0 m pc ls (va_rf r :: rest)) := by
  cases r with
  | none => exact lv_astoreN hexec hb hdg h hn hl kk
  | some x => exact lv_astore hexec hb hdg h hn hl kk
/-- a weaker list of locals, by membership -/
theorem g_lv {lv lv' : List (Nat × Value)} (h : lv_has ls nL lv) (hs : ∀ q ∈ lv', q ∈ lv) : lv_has ls nL lv' := ⟨h.1, h.2.1, fun q hq => h.2.2 q (hs q hq)⟩
end GC
