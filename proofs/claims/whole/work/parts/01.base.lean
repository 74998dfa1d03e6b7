/-! THE GHOST HEAP: a state of the program is a map from addresses to cells, with the heap's size; every method is a function on it -/
abbrev gE : Type := (FieldType × vp_A) ⊕ (Nat × List Value)
abbrev gS : Type := (Nat → Option gE) × Nat
def g_at (D : va_G) (cl : List vw_C) (U : State) (a : Nat) (x : gE) (H : Heap) : Prop := match x with
  | .inl y => ∃ cA : ClassId, va_at D cl (a, .inl (cA, y.2)) H ∧ ArrOfT U cA y.1 ∧ va_RA U cA y.1
  | .inr o => va_at D cl (a, .inr o) H
def g_W (D : va_G) (cl : List vw_C) (A : Nat → Prop) (z : gS) (U : State) (H : Heap) : Prop := H.size = z.2 ∧ ∀ (a : Nat) (x : gE), z.1 a = some x → A a ∧ g_at D cl U a x H
def g_up (z : gS) (a : Nat) (x : gE) : gS := (fun b => if b = a then some x else z.1 b, z.2)
def g_nw (z : gS) (x : gE) : gS := (fun b => if b = z.2 then some x else z.1 b, z.2 + 1)
theorem g_at.kept {D : va_G} {cl : List vw_C} {U : State} {a : Nat} {x : gE} {H H1 : Heap} (h : g_at D cl U a x H) (hq : H1[a]? = H[a]?) : g_at D cl U a x H1 := by
  cases x with
  | inl y =>
    obtain ⟨cA, h1, h2⟩ := h
    exact ⟨cA, va_at.kept h1 hq, h2⟩
  | inr o => exact va_at.kept (q := (a, .inr o)) h hq
theorem g_at.lt {D : va_G} {cl : List vw_C} {U : State} {a : Nat} {x : gE} {H : Heap} (h : g_at D cl U a x H) : a < H.size := by
  cases x with
  | inl y =>
    obtain ⟨cA, h1, h2⟩ := h
    exact va_at.lt h1
  | inr o => exact va_at.lt (q := (a, .inr o)) h
theorem g_at.moved {D : va_G} {cl : List vw_C} {u U : State} {a : Nat} {x : gE} {H : Heap} (hvm : u.vm.Alike U.vm) (h : g_at D cl u a x H) : g_at D cl U a x H := by
  cases x with
  | inl y =>
    obtain ⟨cA, h1, h2, h3⟩ := h
    exact ⟨cA, h1, arrOfT_moved hvm h2, va_RA.moved hvm h3⟩
  | inr o => exact h
theorem g_W.moved {D : va_G} {cl : List vw_C} {A : Nat → Prop} {z : gS} {u U : State} {H : Heap} (hvm : u.vm.Alike U.vm) (h : g_W D cl A z u H) : g_W D cl A z U H := ⟨h.1, fun a x hx => ⟨(h.2 a x hx).1, g_at.moved hvm (h.2 a x hx).2⟩⟩
theorem g_W.fresh {D : va_G} {cl : List vw_C} {A : Nat → Prop} {z : gS} {U : State} {H : Heap} (h : g_W D cl A z U H) {a : Nat} (ha : z.2 ≤ a) : z.1 a = none := by
  cases hx : z.1 a with
  | none => rfl
  | some x =>
    have h1 := g_at.lt (h.2 a x hx).2
    rw [h.1] at h1
    omega
theorem g_W.set {D : va_G} {cl : List vw_C} {A : Nat → Prop} {z : gS} {U : State} {H H1 : Heap} {a : Nat} {x : gE} (h : g_W D cl A z U H) (ha : A a) (hx : g_at D cl U a x H1) (hz : H1.size = H.size) (oq : ∀ q : Nat, q ≠ a → H1[q]? = H[q]?) : g_W D cl A (g_up z a x) U H1 := by
  refine ⟨hz.trans h.1, fun b y hy => ?_⟩
  unfold g_up at hy
  by_cases hb : b = a
  · subst hb
    simp at hy
    subst hy
    exact ⟨ha, hx⟩
  · simp [hb] at hy
    exact ⟨(h.2 b y hy).1, g_at.kept (h.2 b y hy).2 (oq b hb)⟩
theorem g_W.new {D : va_G} {cl : List vw_C} {A : Nat → Prop} {z : gS} {U : State} {H H1 : Heap} {x : gE} (h : g_W D cl A z U H) (ha : A H.size) (hx : g_at D cl U H.size x H1) (hz : H1.size = H.size + 1) (oq : ∀ q : Nat, q < H.size → H1[q]? = H[q]?) : g_W D cl A (g_nw z x) U H1 := by
  refine ⟨by rw [hz, h.1]; rfl, fun b y hy => ?_⟩
  unfold g_nw at hy
  by_cases hb : b = z.2
  · simp [hb] at hy
    subst hy
    rw [hb, ← h.1]
    exact ⟨ha, hx⟩
  · simp [hb] at hy
    exact ⟨(h.2 b y hy).1, g_at.kept (h.2 b y hy).2 (oq b (g_at.lt (h.2 b y hy).2))⟩
-- reading and writing of the ghost heap; none where the machine could not go on
def g_o (z : gS) (a ci : Nat) : Option (List Value) := match z.1 a with
  | some (.inr o) => if o.1 = ci then some o.2 else none
  | _ => none
def g_vI (v : Option Value) : Option Int32 := match v with
  | some (.int x) => some x
  | _ => none
def g_vR (v : Option Value) : Option (Option Nat) := match v with
  | some .null => some none
  | some (.ref a) => some (some a)
  | _ => none
def g_fI (z : gS) (a ci k : Nat) : Option Int32 := (g_o z a ci).bind fun fs => g_vI fs[k]?
def g_fR (z : gS) (a ci k : Nat) : Option (Option Nat) := (g_o z a ci).bind fun fs => g_vR fs[k]?
def g_pF (z : gS) (a ci k : Nat) (v : Value) : Option gS := (g_o z a ci).bind fun fs => if k < fs.length then some (g_up z a (.inr (ci, fs.set k v))) else none
def g_is (z : gS) (a ci : Nat) : Option Unit := (g_o z a ci).bind fun _ => some ()
def g_aI (z : gS) (ty : FieldType) (a : Nat) : Option (Nat × (Nat → Int32)) := match z.1 a with
  | some (.inl (t, n, .inl f)) => if t = ty then some (n, f) else none
  | _ => none
def g_aR (z : gS) (ty : FieldType) (a : Nat) : Option (Nat × (Nat → Option Nat)) := match z.1 a with
  | some (.inl (t, n, .inr (.inr (.inr (.inr f))))) => if t = ty then some (n, f) else none
  | _ => none
def g_len (z : gS) (a : Nat) : Option Int32 := match z.1 a with
  | some (.inl y) => some (Int32.ofNat y.2.1)
  | _ => none
def g_ldI (z : gS) (ty : FieldType) (a : Nat) (i : Int32) : Option Int32 := (g_aI z ty a).bind fun y => if i < 0 ∨ y.1 ≤ i.toNatClampNeg then none else some (y.2 i.toNatClampNeg)
def g_ldR (z : gS) (ty : FieldType) (a : Nat) (i : Int32) : Option (Option Nat) := (g_aR z ty a).bind fun y => if i < 0 ∨ y.1 ≤ i.toNatClampNeg then none else some (y.2 i.toNatClampNeg)
def g_stI (z : gS) (ty : FieldType) (a : Nat) (i x : Int32) : Option gS := (g_aI z ty a).bind fun y => if i < 0 ∨ y.1 ≤ i.toNatClampNeg then none else some (g_up z a (.inl (ty, y.1, .inl (upd y.2 i.toNatClampNeg x))))
def g_stR (z : gS) (ty : FieldType) (a : Nat) (i : Int32) (r : Option Nat) : Option gS := (g_aR z ty a).bind fun y => if i < 0 ∨ y.1 ≤ i.toNatClampNeg then none else some (g_up z a (.inl (ty, y.1, .inr (.inr (.inr (.inr (va_up y.2 i.toNatClampNeg r)))))))
def g_nwO (z : gS) (ci : Nat) (fs : List Value) : Option (Nat × gS) := some (z.2, g_nw z (.inr (ci, fs)))
def g_nwI (z : gS) (ty : FieldType) (n : Int32) (B : Nat) : Option (Nat × gS) := if n < 0 ∨ B < n.toNatClampNeg then none else some (z.2, g_nw z (.inl (ty, n.toNatClampNeg, .inl (fun _ => 0))))
def g_nwR (z : gS) (ty : FieldType) (n : Int32) (B : Nat) : Option (Nat × gS) := if n < 0 ∨ B < n.toNatClampNeg then none else some (z.2, g_nw z (.inl (ty, n.toNatClampNeg, .inr (.inr (.inr (.inr (fun _ => none)))))))
/-- a reference: null or an address -/
def g_n {β : Type} (r : Option Nat) (t : β) (f : Nat → β) : β := match r with
  | none => t
  | some a => f a
theorem g_n0 {β : Type} {t x : β} {f : Nat → β} (h : g_n none t f = x) : t = x := h
theorem g_n1 {β : Type} {t x : β} {a : Nat} {f : Nat → β} (h : g_n (some a) t f = x) : f a = x := h
theorem g_bd {α β : Type} {o : Option α} {f : α → Option β} {y : β} (h : o.bind f = some y) : ∃ v, o = some v ∧ f v = some y := Option.bind_eq_some_iff.mp h
theorem g_it {α : Type} {c : Prop} {a b x : α} {i : Decidable c} (hc : c) (h : (@ite α c i a b) = x) : a = x := by rw [if_pos hc] at h; exact h
theorem g_if {α : Type} {c : Prop} {a b x : α} {i : Decidable c} (hc : ¬ c) (h : (@ite α c i a b) = x) : b = x := by rw [if_neg hc] at h; exact h
theorem g_o_spec {z : gS} {a ci : Nat} {fs : List Value} (h : g_o z a ci = some fs) : z.1 a = some (.inr (ci, fs)) := by
  unfold g_o at h
  split at h
  · rename_i o ho
    split at h
    · rename_i hc
      rw [ho]
      obtain ⟨c0, f0⟩ := o
      simp only at hc
      simp at h
      rw [hc, h]
    · cases h
  · cases h
theorem g_vI_spec {v : Option Value} {x : Int32} (h : g_vI v = some x) : v = some (.int x) := by
  unfold g_vI at h
  split at h
  · cases h; rfl
  · cases h
theorem g_vR_spec {v : Option Value} {r : Option Nat} (h : g_vR v = some r) : v = some (va_rf r) := by
  unfold g_vR at h
  split at h
  · cases h; rfl
  · cases h; rfl
  · cases h
theorem g_aI_spec {z : gS} {ty : FieldType} {a : Nat} {y : Nat × (Nat → Int32)} (h : g_aI z ty a = some y) : z.1 a = some (.inl (ty, y.1, .inl y.2)) := by
  unfold g_aI at h
  split at h
  · rename_i t n f ho
    split at h
    · rename_i hc
      cases h
      rw [ho, hc]
    · cases h
  · cases h
theorem g_aR_spec {z : gS} {ty : FieldType} {a : Nat} {y : Nat × (Nat → Option Nat)} (h : g_aR z ty a = some y) : z.1 a = some (.inl (ty, y.1, .inr (.inr (.inr (.inr y.2))))) := by
  unfold g_aR at h
  split at h
  · rename_i t n f ho
    split at h
    · rename_i hc
      cases h
      rw [ho, hc]
    · cases h
  · cases h
theorem g_P1 {D : va_G} {cl : List vw_C} {q : Nat × va_E} {H : Heap} (h : va_at D cl q H) : va_P D cl [q] H := by
  intro k x hx
  have hz : k < 1 := (List.getElem?_eq_some_iff.mp hx).1
  rw [show k = 0 by omega] at hx
  cases hx
  exact h
/-- what a method's world is beside its cells: the classes, the links between nest mates, the array classes -/
def g_isN (w : Cond) : Bool := match w with
  | .fieldLinkNest .. => true
  | .methodLinkNest .. => true
  | _ => false
def g_K (D : va_G) (cl : List vw_C) (nn : List Cond) (oo : List String) (U : State) : Prop := va_K D cl [] U ∧ (∀ w ∈ nn, g_isN w = true ∧ va_Nw w U) ∧ ∀ C ∈ oo, va_AO C U
theorem g_K.warm {D : va_G} {cl : List vw_C} {nn : List Cond} {oo : List String} {s U : State} (hW : s.WarmedH U.vm) (h : g_K D cl nn oo s) : g_K D cl nn oo U := by
  refine ⟨va_K.moved hW.alike h.1, fun w hw => ?_, fun C hC => va_AO.moved hW.alike (h.2.2 C hC)⟩
  obtain ⟨h1, h2⟩ := h.2.1 w hw
  refine ⟨h1, ?_⟩
  cases w <;> first | exact va_Nw.warmF hW h2 | exact va_Nw.warmM hW h2 | (simp [g_isN] at h1)
theorem g_K.same {D : va_G} {cl : List vw_C} {nn : List Cond} {oo : List String} {s U : State} (hv : s.vm = U.vm) (h : g_K D cl nn oo s) : g_K D cl nn oo U := by
  have ha : s.vm.Alike U.vm := by rw [hv]; exact Vm.Alike.refl _
  refine ⟨va_K.moved ha h.1, fun w hw => ?_, fun C hC => va_AO.moved ha (h.2.2 C hC)⟩
  obtain ⟨h1, h2⟩ := h.2.1 w hw
  refine ⟨h1, ?_⟩
  cases w <;> first | exact va_Nw.same rfl hv h2 | (simp [g_isN] at h1)
theorem g_K.nest {D : va_G} {cl : List vw_C} {nn : List Cond} {oo : List String} {s : State} (h : g_K D cl nn oo s) {w : Cond} (hw : w ∈ nn) : va_Nw w s := (h.2.1 w hw).2
/-- a contract's start and its ends -/
def g_P (D : va_G) (cl : List vw_C) (nn : List Cond) (oo : List String) (A : Nat → Prop) (z : gS) (av : List Value) : Array Value → State → Prop := va_Pc av (fun U => g_W D cl A z U U.heap ∧ g_K D cl nn oo U ∧ ∀ q : Nat, z.2 ≤ q → A q)
abbrev g_Qi (D : va_G) (cl : List vw_C) (A : Nat → Prop) (r : Int32) (z : gS) : Array Value → State → Outcome → State → Prop := va_Qi (fun x (_ : Unit) => x = r) (fun _ t => g_W D cl A z t t.heap) A
abbrev g_Qv (D : va_G) (cl : List vw_C) (A : Nat → Prop) (z : gS) : Array Value → State → Outcome → State → Prop := va_Qv (fun (_ : Unit) => True) (fun _ t => g_W D cl A z t t.heap) A
abbrev g_Qq (D : va_G) (cl : List vw_C) (A : Nat → Prop) (r : Option Nat) (z : gS) : Array Value → State → Outcome → State → Prop := va_Qq (fun x (_ : Unit) => x = r) (fun _ t => g_W D cl A z t t.heap) A
theorem g_P.blind {D : va_G} {cl : List vw_C} {nn : List Cond} {oo : List String} {A : Nat → Prop} {z : gS} {av : List Value} : FrameBlind (g_P D cl nn oo A z av) := by
  intro a U g mk h
  obtain ⟨h0, h1, h2, h3⟩ := h
  exact ⟨h0, g_W.moved (u := U) (U := U.calling g mk a) (Vm.Alike.refl U.vm) h1, g_K.same (s := U) (U := U.calling g mk a) rfl h2, h3⟩
def g_bp {α β γ : Type} (o : Option (α × β)) (f : α → β → Option γ) : Option γ := match o with
  | some x => f x.1 x.2
  | none => none
theorem g_bps {α β γ : Type} {o : Option (α × β)} {f : α → β → Option γ} {y : γ} (h : g_bp o f = some y) : ∃ a b, o = some (a, b) ∧ f a b = some y := by
  unfold g_bp at h
  split at h
  · rename_i x
    exact ⟨x.1, x.2, rfl, h⟩
  · cases h
theorem g_itc {α : Type} {c : Prop} {a : Option α} {x : α} {i : Decidable c} (h : (@ite (Option α) c i a none) = some x) : c := by
  by_cases hc : c
  · exact hc
  · rw [if_neg hc] at h; cases h
theorem g_bool {x : Int32} (h : x = 0 ∨ x = 1) : narrow .boolean (.int x) = .int x := by
  rcases h with rfl | rfl <;> rfl
theorem g_nar (C : String) (r : Option Nat) : narrow (.object C) (va_rf r) = va_rf r ∧ fits (.object C) (va_rf r) = true := by
  cases r <;> exact ⟨rfl, rfl⟩
/-- what holds all through a method's body -/
def g_C (p : Program) (s : State) (m : MethodId) (meth : Method) (c : Code) (args : Array Value) (cc : ByteArray) (nL : Nat) (ret : Option FieldType) (own : String) (Ts : List Cond) (D : va_G) (cl : List vw_C) (nn : List Cond) (oo : List String) (A : Nat → Prop) : Prop :=
  p.tables.exec = Jvm.exec ∧ c.code = cc ∧ meth.sig.returnType = ret ∧ c.maxLocals = nL ∧ s.vm.findClass own = some m.cls ∧ (∀ w ∈ Ts, w.before args s = true) ∧ meth.locks = false ∧ g_K D cl nn oo s ∧ ∀ q : Nat, s.heap.size ≤ q → A q
