section
-- ===== PART A: goes FIRST, ahead of the names: the tables' words, and 'selects' of the private methods out of them =====
/-- a private method of a class that the tables say can be made, by its rows of tables_1 -/
def lw_okq (q : MethodName × Nat) : Prop := (q.1.cls ≠ "java/lang/invoke/MethodHandle" ∧ q.1.cls ≠ "java/lang/invoke/VarHandle") ∧ Cond.instantiable q.1.cls q.2 ∈ tables_1 ∧ Cond.privateMethod q.1 ∈ tables_1 ∧ Cond.instanceMethod q.1 ∈ tables_1
theorem lw_p0 : lw_okq (⟨"SecretRows", "findSecret", "(I)LSecretRows$Secret;"⟩, 14) := ⟨⟨by decide +kernel, by decide +kernel⟩, List.mem_of_getElem? (i := 13) (by decide +kernel), List.mem_of_getElem? (i := 171) (by decide +kernel), List.mem_of_getElem? (i := 172) (by decide +kernel)⟩
theorem lw_p1 : lw_okq (⟨"SecretRows", "setFromTape", "(LSecretRows$Secret;I)I"⟩, 14) := ⟨⟨by decide +kernel, by decide +kernel⟩, List.mem_of_getElem? (i := 13) (by decide +kernel), List.mem_of_getElem? (i := 175) (by decide +kernel), List.mem_of_getElem? (i := 176) (by decide +kernel)⟩
theorem lw_p2 : lw_okq (⟨"SecretRows", "tapeCanBeValue", "()Z"⟩, 14) := ⟨⟨by decide +kernel, by decide +kernel⟩, List.mem_of_getElem? (i := 13) (by decide +kernel), List.mem_of_getElem? (i := 180) (by decide +kernel), List.mem_of_getElem? (i := 181) (by decide +kernel)⟩
theorem lw_p3 : lw_okq (⟨"SecretRows", "tapeIsHad", "()Z"⟩, 14) := ⟨⟨by decide +kernel, by decide +kernel⟩, List.mem_of_getElem? (i := 13) (by decide +kernel), List.mem_of_getElem? (i := 196) (by decide +kernel), List.mem_of_getElem? (i := 197) (by decide +kernel)⟩
theorem lw_p4 : lw_okq (⟨"SecretRows", "keepSeen", "(LSecretRows$Step;III)V"⟩, 14) := ⟨⟨by decide +kernel, by decide +kernel⟩, List.mem_of_getElem? (i := 13) (by decide +kernel), List.mem_of_getElem? (i := 325) (by decide +kernel), List.mem_of_getElem? (i := 326) (by decide +kernel)⟩
theorem lw_p5 : lw_okq (⟨"SecretRows", "findStep", "(I)LSecretRows$Step;"⟩, 14) := ⟨⟨by decide +kernel, by decide +kernel⟩, List.mem_of_getElem? (i := 13) (by decide +kernel), List.mem_of_getElem? (i := 341) (by decide +kernel), List.mem_of_getElem? (i := 342) (by decide +kernel)⟩
theorem lw_p6 : lw_okq (⟨"SecretRows", "keptValue", "(II)LSecretRows$Value;"⟩, 14) := ⟨⟨by decide +kernel, by decide +kernel⟩, List.mem_of_getElem? (i := 13) (by decide +kernel), List.mem_of_getElem? (i := 353) (by decide +kernel), List.mem_of_getElem? (i := 354) (by decide +kernel)⟩
theorem lw_p7 : lw_okq (⟨"SecretRows", "logFromTape", "(LSecretRows$Step;)I"⟩, 14) := ⟨⟨by decide +kernel, by decide +kernel⟩, List.mem_of_getElem? (i := 13) (by decide +kernel), List.mem_of_getElem? (i := 378) (by decide +kernel), List.mem_of_getElem? (i := 379) (by decide +kernel)⟩
theorem lw_p8 : lw_okq (⟨"SecretRows", "gatherForms", "()V"⟩, 14) := ⟨⟨by decide +kernel, by decide +kernel⟩, List.mem_of_getElem? (i := 13) (by decide +kernel), List.mem_of_getElem? (i := 387) (by decide +kernel), List.mem_of_getElem? (i := 388) (by decide +kernel)⟩
theorem lw_p9 : lw_okq (⟨"SecretRows$Forms", "add", "(LSecretRows$Text;III)V"⟩, 5) := ⟨⟨by decide +kernel, by decide +kernel⟩, List.mem_of_getElem? (i := 58) (by decide +kernel), List.mem_of_getElem? (i := 399) (by decide +kernel), List.mem_of_getElem? (i := 400) (by decide +kernel)⟩
theorem lw_p10 : lw_okq (⟨"SecretRows$Log", "cover", "(LSecretRows$Forms;Z)V"⟩, 5) := ⟨⟨by decide +kernel, by decide +kernel⟩, List.mem_of_getElem? (i := 290) (by decide +kernel), List.mem_of_getElem? (i := 408) (by decide +kernel), List.mem_of_getElem? (i := 409) (by decide +kernel)⟩
theorem lw_p11 : lw_okq (⟨"SecretRows$Forms", "textOf", "(I)LSecretRows$Text;"⟩, 5) := ⟨⟨by decide +kernel, by decide +kernel⟩, List.mem_of_getElem? (i := 58) (by decide +kernel), List.mem_of_getElem? (i := 417) (by decide +kernel), List.mem_of_getElem? (i := 418) (by decide +kernel)⟩
theorem lw_p12 : lw_okq (⟨"SecretRows$Forms", "isThere", "(I)Z"⟩, 5) := ⟨⟨by decide +kernel, by decide +kernel⟩, List.mem_of_getElem? (i := 58) (by decide +kernel), List.mem_of_getElem? (i := 421) (by decide +kernel), List.mem_of_getElem? (i := 422) (by decide +kernel)⟩
theorem lw_p13 : lw_okq (⟨"SecretRows$Log", "tellStars", "()V"⟩, 5) := ⟨⟨by decide +kernel, by decide +kernel⟩, List.mem_of_getElem? (i := 290) (by decide +kernel), List.mem_of_getElem? (i := 432) (by decide +kernel), List.mem_of_getElem? (i := 433) (by decide +kernel)⟩
theorem lw_p14 : lw_okq (⟨"SecretRows", "rememberLeak", "(I)V"⟩, 14) := ⟨⟨by decide +kernel, by decide +kernel⟩, List.mem_of_getElem? (i := 13) (by decide +kernel), List.mem_of_getElem? (i := 495) (by decide +kernel), List.mem_of_getElem? (i := 496) (by decide +kernel)⟩
theorem lw_p15 : lw_okq (⟨"SecretRowsModel", "isSecret", "(I)Z"⟩, 36) := ⟨⟨by decide +kernel, by decide +kernel⟩, List.mem_of_getElem? (i := 515) (by decide +kernel), List.mem_of_getElem? (i := 643) (by decide +kernel), List.mem_of_getElem? (i := 644) (by decide +kernel)⟩
def lw_privs_1 : List (MethodName × Nat) := [(⟨"SecretRows", "findSecret", "(I)LSecretRows$Secret;"⟩, 14), (⟨"SecretRows", "setFromTape", "(LSecretRows$Secret;I)I"⟩, 14), (⟨"SecretRows", "tapeCanBeValue", "()Z"⟩, 14), (⟨"SecretRows", "tapeIsHad", "()Z"⟩, 14), (⟨"SecretRows", "keepSeen", "(LSecretRows$Step;III)V"⟩, 14), (⟨"SecretRows", "findStep", "(I)LSecretRows$Step;"⟩, 14), (⟨"SecretRows", "keptValue", "(II)LSecretRows$Value;"⟩, 14), (⟨"SecretRows", "logFromTape", "(LSecretRows$Step;)I"⟩, 14), (⟨"SecretRows", "gatherForms", "()V"⟩, 14), (⟨"SecretRows$Forms", "add", "(LSecretRows$Text;III)V"⟩, 5), (⟨"SecretRows$Log", "cover", "(LSecretRows$Forms;Z)V"⟩, 5), (⟨"SecretRows$Forms", "textOf", "(I)LSecretRows$Text;"⟩, 5), (⟨"SecretRows$Forms", "isThere", "(I)Z"⟩, 5), (⟨"SecretRows$Log", "tellStars", "()V"⟩, 5), (⟨"SecretRows", "rememberLeak", "(I)V"⟩, 14), (⟨"SecretRowsModel", "isSecret", "(I)Z"⟩, 36)]
theorem lw_r1 : ∀ q ∈ lw_privs_1, lw_okq q := List.forall_mem_cons.mpr ⟨lw_p0, List.forall_mem_cons.mpr ⟨lw_p1, List.forall_mem_cons.mpr ⟨lw_p2, List.forall_mem_cons.mpr ⟨lw_p3, List.forall_mem_cons.mpr ⟨lw_p4, List.forall_mem_cons.mpr ⟨lw_p5, List.forall_mem_cons.mpr ⟨lw_p6, List.forall_mem_cons.mpr ⟨lw_p7, List.forall_mem_cons.mpr ⟨lw_p8, List.forall_mem_cons.mpr ⟨lw_p9, List.forall_mem_cons.mpr ⟨lw_p10, List.forall_mem_cons.mpr ⟨lw_p11, List.forall_mem_cons.mpr ⟨lw_p12, List.forall_mem_cons.mpr ⟨lw_p13, List.forall_mem_cons.mpr ⟨lw_p14, List.forall_mem_cons.mpr ⟨lw_p15, fun _ h => absurd h List.not_mem_nil⟩⟩⟩⟩⟩⟩⟩⟩⟩⟩⟩⟩⟩⟩⟩⟩
theorem lw_p16 : lw_okq (⟨"SecretRowsModel", "isTaped", "(II)Z"⟩, 36) := ⟨⟨by decide +kernel, by decide +kernel⟩, List.mem_of_getElem? (i := 515) (by decide +kernel), List.mem_of_getElem? (i := 648) (by decide +kernel), List.mem_of_getElem? (i := 649) (by decide +kernel)⟩
theorem lw_p17 : lw_okq (⟨"SecretRowsModel", "keptOf", "(II)I"⟩, 36) := ⟨⟨by decide +kernel, by decide +kernel⟩, List.mem_of_getElem? (i := 515) (by decide +kernel), List.mem_of_getElem? (i := 669) (by decide +kernel), List.mem_of_getElem? (i := 670) (by decide +kernel)⟩
theorem lw_p18 : lw_okq (⟨"SecretRowsModel", "isStep", "(I)Z"⟩, 36) := ⟨⟨by decide +kernel, by decide +kernel⟩, List.mem_of_getElem? (i := 515) (by decide +kernel), List.mem_of_getElem? (i := 673) (by decide +kernel), List.mem_of_getElem? (i := 674) (by decide +kernel)⟩
theorem lw_p19 : lw_okq (⟨"SecretRowsModel", "cover", "(IZ)V"⟩, 36) := ⟨⟨by decide +kernel, by decide +kernel⟩, List.mem_of_getElem? (i := 515) (by decide +kernel), List.mem_of_getElem? (i := 689) (by decide +kernel), List.mem_of_getElem? (i := 690) (by decide +kernel)⟩
theorem lw_p20 : lw_okq (⟨"SecretRowsModel", "counts", "(I)Z"⟩, 36) := ⟨⟨by decide +kernel, by decide +kernel⟩, List.mem_of_getElem? (i := 515) (by decide +kernel), List.mem_of_getElem? (i := 693) (by decide +kernel), List.mem_of_getElem? (i := 694) (by decide +kernel)⟩
theorem lw_p21 : lw_okq (⟨"SecretRowsModel", "common", "([IIIII)I"⟩, 36) := ⟨⟨by decide +kernel, by decide +kernel⟩, List.mem_of_getElem? (i := 515) (by decide +kernel), List.mem_of_getElem? (i := 697) (by decide +kernel), List.mem_of_getElem? (i := 698) (by decide +kernel)⟩
theorem lw_p22 : lw_okq (⟨"SecretRowsModel", "formLength", "(II)I"⟩, 36) := ⟨⟨by decide +kernel, by decide +kernel⟩, List.mem_of_getElem? (i := 515) (by decide +kernel), List.mem_of_getElem? (i := 701) (by decide +kernel), List.mem_of_getElem? (i := 702) (by decide +kernel)⟩
theorem lw_p23 : lw_okq (⟨"SecretRowsModel", "formSign", "(III)I"⟩, 36) := ⟨⟨by decide +kernel, by decide +kernel⟩, List.mem_of_getElem? (i := 515) (by decide +kernel), List.mem_of_getElem? (i := 705) (by decide +kernel), List.mem_of_getElem? (i := 706) (by decide +kernel)⟩
theorem lw_p24 : lw_okq (⟨"SecretRowsModel", "tell", "(II)V"⟩, 36) := ⟨⟨by decide +kernel, by decide +kernel⟩, List.mem_of_getElem? (i := 515) (by decide +kernel), List.mem_of_getElem? (i := 712) (by decide +kernel), List.mem_of_getElem? (i := 713) (by decide +kernel)⟩
def lw_privs_2 : List (MethodName × Nat) := [(⟨"SecretRowsModel", "isTaped", "(II)Z"⟩, 36), (⟨"SecretRowsModel", "keptOf", "(II)I"⟩, 36), (⟨"SecretRowsModel", "isStep", "(I)Z"⟩, 36), (⟨"SecretRowsModel", "cover", "(IZ)V"⟩, 36), (⟨"SecretRowsModel", "counts", "(I)Z"⟩, 36), (⟨"SecretRowsModel", "common", "([IIIII)I"⟩, 36), (⟨"SecretRowsModel", "formLength", "(II)I"⟩, 36), (⟨"SecretRowsModel", "formSign", "(III)I"⟩, 36), (⟨"SecretRowsModel", "tell", "(II)V"⟩, 36)]
theorem lw_r2 : ∀ q ∈ lw_privs_2, lw_okq q := List.forall_mem_cons.mpr ⟨lw_p16, List.forall_mem_cons.mpr ⟨lw_p17, List.forall_mem_cons.mpr ⟨lw_p18, List.forall_mem_cons.mpr ⟨lw_p19, List.forall_mem_cons.mpr ⟨lw_p20, List.forall_mem_cons.mpr ⟨lw_p21, List.forall_mem_cons.mpr ⟨lw_p22, List.forall_mem_cons.mpr ⟨lw_p23, List.forall_mem_cons.mpr ⟨lw_p24, fun _ h => absurd h List.not_mem_nil⟩⟩⟩⟩⟩⟩⟩⟩⟩
def lw_privs : List (MethodName × Nat) := lw_privs_1 ++ (lw_privs_2)
def lw_tbl : List Cond := k2_sels lw_privs ++ tables_1
theorem lw_privs_ok : ∀ q ∈ lw_privs, lw_okq q := by
  show ∀ q ∈ lw_privs_1 ++ (lw_privs_2), lw_okq q
  exact List.forall_mem_append.mpr ⟨lw_r1, lw_r2⟩
end
section
/-! THE GHOST HEAP: a state of the program is a map from addresses to cells, with the heap's size; every method is a function on it -/
abbrev gE : Type := (FieldType × vp_A) ⊕ (Nat × List Value)
abbrev gS : Type := (Nat → Option gE) × Nat
def g_at (D : va_G) (cl : List vw_C) (U : State) (a : Nat) (x : gE) (H : Heap) : Prop := match x with
  | .inl y => ∃ cA : ClassId, va_at D cl (a, .inl (cA, y.2)) H ∧ ArrOfT U cA y.1 ∧ va_RA U cA y.1
  | .inr o => va_at D cl (a, .inr o) H
def g_W (D : va_G) (cl : List vw_C) (A : Nat → Prop) (z : gS) (U : State) (H : Heap) : Prop := H.size = z.2 ∧ ∀ (a : Nat) (x : gE), z.1 a = some x → A a ∧ g_at D cl U a x H
def g_up (z : gS) (a : Nat) (x : gE) : gS := (fun b => if b = a then some x else z.1 b, z.2)
def g_nw (z : gS) (x : gE) : gS := (fun b => if b = z.2 then some x else z.1 b, z.2 + 1)
theorem g_at.kept {D : va_G} {cl : List vw_C} {U : State} {a : Nat} {x : gE} {H H1 : Heap} (h : g_at D cl U a x H) (hq : H1[a]? = H[a]?) : g_at D cl U a x H1 := by
  cases x with
  | inl y =>
    obtain ⟨cA, h1, h2⟩ := h
    exact ⟨cA, va_at.kept h1 hq, h2⟩
  | inr o => exact va_at.kept (q := (a, .inr o)) h hq
theorem g_at.lt {D : va_G} {cl : List vw_C} {U : State} {a : Nat} {x : gE} {H : Heap} (h : g_at D cl U a x H) : a < H.size := by
  cases x with
  | inl y =>
    obtain ⟨cA, h1, h2⟩ := h
    exact va_at.lt h1
  | inr o => exact va_at.lt (q := (a, .inr o)) h
theorem g_at.moved {D : va_G} {cl : List vw_C} {u U : State} {a : Nat} {x : gE} {H : Heap} (hvm : u.vm.Alike U.vm) (h : g_at D cl u a x H) : g_at D cl U a x H := by
  cases x with
  | inl y =>
    obtain ⟨cA, h1, h2, h3⟩ := h
    exact ⟨cA, h1, arrOfT_moved hvm h2, va_RA.moved hvm h3⟩
  | inr o => exact h
theorem g_W.moved {D : va_G} {cl : List vw_C} {A : Nat → Prop} {z : gS} {u U : State} {H : Heap} (hvm : u.vm.Alike U.vm) (h : g_W D cl A z u H) : g_W D cl A z U H := ⟨h.1, fun a x hx => ⟨(h.2 a x hx).1, g_at.moved hvm (h.2 a x hx).2⟩⟩
theorem g_W.fresh {D : va_G} {cl : List vw_C} {A : Nat → Prop} {z : gS} {U : State} {H : Heap} (h : g_W D cl A z U H) {a : Nat} (ha : z.2 ≤ a) : z.1 a = none := by
  cases hx : z.1 a with
  | none => rfl
  | some x =>
    have h1 := g_at.lt (h.2 a x hx).2
    rw [h.1] at h1
    omega
theorem g_W.set {D : va_G} {cl : List vw_C} {A : Nat → Prop} {z : gS} {U : State} {H H1 : Heap} {a : Nat} {x : gE} (h : g_W D cl A z U H) (ha : A a) (hx : g_at D cl U a x H1) (hz : H1.size = H.size) (oq : ∀ q : Nat, q ≠ a → H1[q]? = H[q]?) : g_W D cl A (g_up z a x) U H1 := by
  refine ⟨hz.trans h.1, fun b y hy => ?_⟩
  unfold g_up at hy
  by_cases hb : b = a
  · subst hb
    simp at hy
    subst hy
    exact ⟨ha, hx⟩
  · simp [hb] at hy
    exact ⟨(h.2 b y hy).1, g_at.kept (h.2 b y hy).2 (oq b hb)⟩
theorem g_W.new {D : va_G} {cl : List vw_C} {A : Nat → Prop} {z : gS} {U : State} {H H1 : Heap} {x : gE} (h : g_W D cl A z U H) (ha : A H.size) (hx : g_at D cl U H.size x H1) (hz : H1.size = H.size + 1) (oq : ∀ q : Nat, q < H.size → H1[q]? = H[q]?) : g_W D cl A (g_nw z x) U H1 := by
  refine ⟨by rw [hz, h.1]; rfl, fun b y hy => ?_⟩
  unfold g_nw at hy
  by_cases hb : b = z.2
  · simp [hb] at hy
    subst hy
    rw [hb, ← h.1]
    exact ⟨ha, hx⟩
  · simp [hb] at hy
    exact ⟨(h.2 b y hy).1, g_at.kept (h.2 b y hy).2 (oq b (g_at.lt (h.2 b y hy).2))⟩
-- reading and writing of the ghost heap; none where the machine could not go on
def g_o (z : gS) (a ci : Nat) : Option (List Value) := match z.1 a with
  | some (.inr o) => if o.1 = ci then some o.2 else none
  | _ => none
def g_vI (v : Option Value) : Option Int32 := match v with
  | some (.int x) => some x
  | _ => none
def g_vR (v : Option Value) : Option (Option Nat) := match v with
  | some .null => some none
  | some (.ref a) => some (some a)
  | _ => none
def g_fI (z : gS) (a ci k : Nat) : Option Int32 := (g_o z a ci).bind fun fs => g_vI fs[k]?
def g_fR (z : gS) (a ci k : Nat) : Option (Option Nat) := (g_o z a ci).bind fun fs => g_vR fs[k]?
def g_pF (z : gS) (a ci k : Nat) (v : Value) : Option gS := (g_o z a ci).bind fun fs => if k < fs.length then some (g_up z a (.inr (ci, fs.set k v))) else none
def g_is (z : gS) (a ci : Nat) : Option Unit := (g_o z a ci).bind fun _ => some ()
def g_aI (z : gS) (ty : FieldType) (a : Nat) : Option (Nat × (Nat → Int32)) := match z.1 a with
  | some (.inl (t, n, .inl f)) => if t = ty then some (n, f) else none
  | _ => none
def g_aR (z : gS) (ty : FieldType) (a : Nat) : Option (Nat × (Nat → Option Nat)) := match z.1 a with
  | some (.inl (t, n, .inr (.inr (.inr (.inr f))))) => if t = ty then some (n, f) else none
  | _ => none
def g_len (z : gS) (a : Nat) : Option Int32 := match z.1 a with
  | some (.inl y) => some (Int32.ofNat y.2.1)
  | _ => none
def g_ldI (z : gS) (ty : FieldType) (a : Nat) (i : Int32) : Option Int32 := (g_aI z ty a).bind fun y => if i < 0 ∨ y.1 ≤ i.toNatClampNeg then none else some (y.2 i.toNatClampNeg)
def g_ldR (z : gS) (ty : FieldType) (a : Nat) (i : Int32) : Option (Option Nat) := (g_aR z ty a).bind fun y => if i < 0 ∨ y.1 ≤ i.toNatClampNeg then none else some (y.2 i.toNatClampNeg)
def g_stI (z : gS) (ty : FieldType) (a : Nat) (i x : Int32) : Option gS := (g_aI z ty a).bind fun y => if i < 0 ∨ y.1 ≤ i.toNatClampNeg then none else some (g_up z a (.inl (ty, y.1, .inl (upd y.2 i.toNatClampNeg x))))
def g_stR (z : gS) (ty : FieldType) (a : Nat) (i : Int32) (r : Option Nat) : Option gS := (g_aR z ty a).bind fun y => if i < 0 ∨ y.1 ≤ i.toNatClampNeg then none else some (g_up z a (.inl (ty, y.1, .inr (.inr (.inr (.inr (va_up y.2 i.toNatClampNeg r)))))))
def g_nwO (z : gS) (ci : Nat) (fs : List Value) : Option (Nat × gS) := some (z.2, g_nw z (.inr (ci, fs)))
def g_nwI (z : gS) (ty : FieldType) (n : Int32) (B : Nat) : Option (Nat × gS) := if n < 0 ∨ B < n.toNatClampNeg then none else some (z.2, g_nw z (.inl (ty, n.toNatClampNeg, .inl (fun _ => 0))))
def g_nwR (z : gS) (ty : FieldType) (n : Int32) (B : Nat) : Option (Nat × gS) := if n < 0 ∨ B < n.toNatClampNeg then none else some (z.2, g_nw z (.inl (ty, n.toNatClampNeg, .inr (.inr (.inr (.inr (fun _ => none)))))))
/-- a reference: null or an address -/
def g_n {β : Type} (r : Option Nat) (t : β) (f : Nat → β) : β := match r with
  | none => t
  | some a => f a
theorem g_n0 {β : Type} {t x : β} {f : Nat → β} (h : g_n none t f = x) : t = x := h
theorem g_n1 {β : Type} {t x : β} {a : Nat} {f : Nat → β} (h : g_n (some a) t f = x) : f a = x := h
theorem g_bd {α β : Type} {o : Option α} {f : α → Option β} {y : β} (h : o.bind f = some y) : ∃ v, o = some v ∧ f v = some y := Option.bind_eq_some_iff.mp h
theorem g_it {α : Type} {c : Prop} {a b x : α} {i : Decidable c} (hc : c) (h : (@ite α c i a b) = x) : a = x := by rw [if_pos hc] at h; exact h
theorem g_if {α : Type} {c : Prop} {a b x : α} {i : Decidable c} (hc : ¬ c) (h : (@ite α c i a b) = x) : b = x := by rw [if_neg hc] at h; exact h
theorem g_o_spec {z : gS} {a ci : Nat} {fs : List Value} (h : g_o z a ci = some fs) : z.1 a = some (.inr (ci, fs)) := by
  unfold g_o at h
  split at h
  · rename_i o ho
    split at h
    · rename_i hc
      rw [ho]
      obtain ⟨c0, f0⟩ := o
      simp only at hc
      simp at h
      rw [hc, h]
    · cases h
  · cases h
theorem g_vI_spec {v : Option Value} {x : Int32} (h : g_vI v = some x) : v = some (.int x) := by
  unfold g_vI at h
  split at h
  · cases h; rfl
  · cases h
theorem g_vR_spec {v : Option Value} {r : Option Nat} (h : g_vR v = some r) : v = some (va_rf r) := by
  unfold g_vR at h
  split at h
  · cases h; rfl
  · cases h; rfl
  · cases h
theorem g_aI_spec {z : gS} {ty : FieldType} {a : Nat} {y : Nat × (Nat → Int32)} (h : g_aI z ty a = some y) : z.1 a = some (.inl (ty, y.1, .inl y.2)) := by
  unfold g_aI at h
  split at h
  · rename_i t n f ho
    split at h
    · rename_i hc
      cases h
      rw [ho, hc]
    · cases h
  · cases h
theorem g_aR_spec {z : gS} {ty : FieldType} {a : Nat} {y : Nat × (Nat → Option Nat)} (h : g_aR z ty a = some y) : z.1 a = some (.inl (ty, y.1, .inr (.inr (.inr (.inr y.2))))) := by
  unfold g_aR at h
  split at h
  · rename_i t n f ho
    split at h
    · rename_i hc
      cases h
      rw [ho, hc]
    · cases h
  · cases h
theorem g_P1 {D : va_G} {cl : List vw_C} {q : Nat × va_E} {H : Heap} (h : va_at D cl q H) : va_P D cl [q] H := by
  intro k x hx
  have hz : k < 1 := (List.getElem?_eq_some_iff.mp hx).1
  rw [show k = 0 by omega] at hx
  cases hx
  exact h
/-- what a method's world is beside its cells: the classes, the links between nest mates, the array classes -/
def g_isN (w : Cond) : Bool := match w with
  | .fieldLinkNest .. => true
  | .methodLinkNest .. => true
  | _ => false
def g_K (D : va_G) (cl : List vw_C) (nn : List Cond) (oo : List String) (U : State) : Prop := va_K D cl [] U ∧ (∀ w ∈ nn, g_isN w = true ∧ va_Nw w U) ∧ ∀ C ∈ oo, va_AO C U
theorem g_K.warm {D : va_G} {cl : List vw_C} {nn : List Cond} {oo : List String} {s U : State} (hW : s.WarmedH U.vm) (h : g_K D cl nn oo s) : g_K D cl nn oo U := by
  refine ⟨va_K.moved hW.alike h.1, fun w hw => ?_, fun C hC => va_AO.moved hW.alike (h.2.2 C hC)⟩
  obtain ⟨h1, h2⟩ := h.2.1 w hw
  refine ⟨h1, ?_⟩
  cases w <;> first | exact va_Nw.warmF hW h2 | exact va_Nw.warmM hW h2 | (simp [g_isN] at h1)
theorem g_K.same {D : va_G} {cl : List vw_C} {nn : List Cond} {oo : List String} {s U : State} (hv : s.vm = U.vm) (h : g_K D cl nn oo s) : g_K D cl nn oo U := by
  have ha : s.vm.Alike U.vm := by rw [hv]; exact Vm.Alike.refl _
  refine ⟨va_K.moved ha h.1, fun w hw => ?_, fun C hC => va_AO.moved ha (h.2.2 C hC)⟩
  obtain ⟨h1, h2⟩ := h.2.1 w hw
  refine ⟨h1, ?_⟩
  cases w <;> first | exact va_Nw.same rfl hv h2 | (simp [g_isN] at h1)
theorem g_K.nest {D : va_G} {cl : List vw_C} {nn : List Cond} {oo : List String} {s : State} (h : g_K D cl nn oo s) {w : Cond} (hw : w ∈ nn) : va_Nw w s := (h.2.1 w hw).2
/-- a contract's start and its ends -/
def g_P (D : va_G) (cl : List vw_C) (nn : List Cond) (oo : List String) (A : Nat → Prop) (z : gS) (av : List Value) : Array Value → State → Prop := va_Pc av (fun U => g_W D cl A z U U.heap ∧ g_K D cl nn oo U ∧ ∀ q : Nat, z.2 ≤ q → A q)
abbrev g_Qi (D : va_G) (cl : List vw_C) (A : Nat → Prop) (r : Int32) (z : gS) : Array Value → State → Outcome → State → Prop := va_Qi (fun x (_ : Unit) => x = r) (fun _ t => g_W D cl A z t t.heap) A
abbrev g_Qv (D : va_G) (cl : List vw_C) (A : Nat → Prop) (z : gS) : Array Value → State → Outcome → State → Prop := va_Qv (fun (_ : Unit) => True) (fun _ t => g_W D cl A z t t.heap) A
abbrev g_Qq (D : va_G) (cl : List vw_C) (A : Nat → Prop) (r : Option Nat) (z : gS) : Array Value → State → Outcome → State → Prop := va_Qq (fun x (_ : Unit) => x = r) (fun _ t => g_W D cl A z t t.heap) A
theorem g_P.blind {D : va_G} {cl : List vw_C} {nn : List Cond} {oo : List String} {A : Nat → Prop} {z : gS} {av : List Value} : FrameBlind (g_P D cl nn oo A z av) := by
  intro a U g mk h
  obtain ⟨h0, h1, h2, h3⟩ := h
  exact ⟨h0, g_W.moved (u := U) (U := U.calling g mk a) (Vm.Alike.refl U.vm) h1, g_K.same (s := U) (U := U.calling g mk a) rfl h2, h3⟩
def g_bp {α β γ : Type} (o : Option (α × β)) (f : α → β → Option γ) : Option γ := match o with
  | some x => f x.1 x.2
  | none => none
theorem g_bps {α β γ : Type} {o : Option (α × β)} {f : α → β → Option γ} {y : γ} (h : g_bp o f = some y) : ∃ a b, o = some (a, b) ∧ f a b = some y := by
  unfold g_bp at h
  split at h
  · rename_i x
    exact ⟨x.1, x.2, rfl, h⟩
  · cases h
theorem g_itc {α : Type} {c : Prop} {a : Option α} {x : α} {i : Decidable c} (h : (@ite (Option α) c i a none) = some x) : c := by
  by_cases hc : c
  · exact hc
  · rw [if_neg hc] at h; cases h
theorem g_bool {x : Int32} (h : x = 0 ∨ x = 1) : narrow .boolean (.int x) = .int x := by
  rcases h with rfl | rfl <;> rfl
theorem g_nar (C : String) (r : Option Nat) : narrow (.object C) (va_rf r) = va_rf r ∧ fits (.object C) (va_rf r) = true := by
  cases r <;> exact ⟨rfl, rfl⟩
/-- what holds all through a method's body -/
def g_C (p : Program) (s : State) (m : MethodId) (meth : Method) (c : Code) (args : Array Value) (cc : ByteArray) (nL : Nat) (ret : Option FieldType) (own : String) (Ts : List Cond) (D : va_G) (cl : List vw_C) (nn : List Cond) (oo : List String) (A : Nat → Prop) : Prop :=
  p.tables.exec = Jvm.exec ∧ c.code = cc ∧ meth.sig.returnType = ret ∧ c.maxLocals = nL ∧ s.vm.findClass own = some m.cls ∧ (∀ w ∈ Ts, w.before args s = true) ∧ meth.locks = false ∧ g_K D cl nn oo s ∧ ∀ q : Nat, s.heap.size ≤ q → A q
end
section
section GR
variable {p : Program} {l : Launch} {e : Env} {R : Room} {s : State} {m : MethodId} {args : Array Value} {below : List Frame} {meth : Method} {c : Code} {H : Heap} {locs : List Loc} {cells slots : Nat} {Q : State → Prop}
variable {cc : ByteArray} {pc : Nat} {ls : Array Slot} {rest : List Value} {D : va_G} {cl : List vw_C} {A : Nat → Prop} {a : Nat} {z z1 : gS} {H0 : Heap} {nn : List Cond} {oo : List String}
/-- getfield of an int -/
theorem g_getI (hexec : p.tables.exec = Jvm.exec) (hb : c.code = cc) {own ref C : String} {T : u_T} {N ci index : Nat} {Ts : List Cond} (hts : ∀ w ∈ Ts, w.before args s = true) (hin : ∀ w ∈ u_ws C T N, w ∈ Ts) (hown : s.vm.findClass own = some m.cls) (hK : g_K D cl nn oo s) (hW : g_W D cl A z s H) (hc : cl[ci]? = some (C, T, N)) {k : Nat} (hk : k < N) (hlink : (Cond.fieldLink own index ref (T k).2.1 (T k).2.2.1).before args s = true) (hsame : ∀ x, s.fieldFound? (T k).1 (T k).2.1 (T k).2.2.1 = some x → s.fieldFound? ref (T k).2.1 (T k).2.2.1 = some x) {v : Int32} (hv : g_fI z a ci k = some v) (hdg : decode cc pc = .ok (.getfield index, 3))
    (kk : W p l e R s m args below meth c H locs cells slots Q (F0 m (pc + 3) ls (.int v :: rest))) : W p l e R s m args below meth c H locs cells slots Q (F0 m pc ls (.ref a :: rest)) := by
  obtain ⟨fs, h1, h2⟩ := g_bd hv
  have h3 := (hW.2 a _ (g_o_spec h1)).2
  exact va_get (q0 := 0) hexec hb hts hin hown hK.1 (g_P1 (q := (a, .inr (ci, fs))) h3) rfl hc k hk hlink hsame (g_vI_spec h2) hdg kk
theorem g_getR (hexec : p.tables.exec = Jvm.exec) (hb : c.code = cc) {own ref C : String} {T : u_T} {N ci index : Nat} {Ts : List Cond} (hts : ∀ w ∈ Ts, w.before args s = true) (hin : ∀ w ∈ u_ws C T N, w ∈ Ts) (hown : s.vm.findClass own = some m.cls) (hK : g_K D cl nn oo s) (hW : g_W D cl A z s H) (hc : cl[ci]? = some (C, T, N)) {k : Nat} (hk : k < N) (hlink : (Cond.fieldLink own index ref (T k).2.1 (T k).2.2.1).before args s = true) (hsame : ∀ x, s.fieldFound? (T k).1 (T k).2.1 (T k).2.2.1 = some x → s.fieldFound? ref (T k).2.1 (T k).2.2.1 = some x) {v : Option Nat} (hv : g_fR z a ci k = some v) (hdg : decode cc pc = .ok (.getfield index, 3))
    (kk : W p l e R s m args below meth c H locs cells slots Q (F0 m (pc + 3) ls (va_rf v :: rest))) : W p l e R s m args below meth c H locs cells slots Q (F0 m pc ls (.ref a :: rest)) := by
  obtain ⟨fs, h1, h2⟩ := g_bd hv
  have h3 := (hW.2 a _ (g_o_spec h1)).2
  exact va_get (q0 := 0) hexec hb hts hin hown hK.1 (g_P1 (q := (a, .inr (ci, fs))) h3) rfl hc k hk hlink hsame (g_vR_spec h2) hdg kk
/-- the same of a nest mate's private field -/
theorem g_getIN (hexec : p.tables.exec = Jvm.exec) (hb : c.code = cc) {own ref C host : String} {T : u_T} {N ci index : Nat} {Ts : List Cond} (hts : ∀ w ∈ Ts, w.before args s = true) (hin : ∀ w ∈ u_ws C T N, w ∈ Ts) (hown : s.vm.findClass own = some m.cls) (hK : g_K D cl nn oo s) (hW : g_W D cl A z s H) (hc : cl[ci]? = some (C, T, N)) {k : Nat} (hk : k < N) (hlink : Cond.fieldLinkNest own index ref (T k).2.1 (T k).2.2.1 host ∈ nn) (hsame : ∀ x, s.fieldFound? (T k).1 (T k).2.1 (T k).2.2.1 = some x → s.fieldFound? ref (T k).2.1 (T k).2.2.1 = some x) {v : Int32} (hv : g_fI z a ci k = some v) (hdg : decode cc pc = .ok (.getfield index, 3))
    (kk : W p l e R s m args below meth c H locs cells slots Q (F0 m (pc + 3) ls (.int v :: rest))) : W p l e R s m args below meth c H locs cells slots Q (F0 m pc ls (.ref a :: rest)) := by
  obtain ⟨fs, h1, h2⟩ := g_bd hv
  have h3 := (hW.2 a _ (g_o_spec h1)).2
  exact va_getN (q0 := 0) (host := host) hexec hb hts hin hown hK.1 (g_P1 (q := (a, .inr (ci, fs))) h3) rfl hc k hk (va_Nw.use rfl (hK.nest hlink)) hsame (g_vI_spec h2) hdg kk
theorem g_getRN (hexec : p.tables.exec = Jvm.exec) (hb : c.code = cc) {own ref C host : String} {T : u_T} {N ci index : Nat} {Ts : List Cond} (hts : ∀ w ∈ Ts, w.before args s = true) (hin : ∀ w ∈ u_ws C T N, w ∈ Ts) (hown : s.vm.findClass own = some m.cls) (hK : g_K D cl nn oo s) (hW : g_W D cl A z s H) (hc : cl[ci]? = some (C, T, N)) {k : Nat} (hk : k < N) (hlink : Cond.fieldLinkNest own index ref (T k).2.1 (T k).2.2.1 host ∈ nn) (hsame : ∀ x, s.fieldFound? (T k).1 (T k).2.1 (T k).2.2.1 = some x → s.fieldFound? ref (T k).2.1 (T k).2.2.1 = some x) {v : Option Nat} (hv : g_fR z a ci k = some v) (hdg : decode cc pc = .ok (.getfield index, 3))
    (kk : W p l e R s m args below meth c H locs cells slots Q (F0 m (pc + 3) ls (va_rf v :: rest))) : W p l e R s m args below meth c H locs cells slots Q (F0 m pc ls (.ref a :: rest)) := by
  obtain ⟨fs, h1, h2⟩ := g_bd hv
  have h3 := (hW.2 a _ (g_o_spec h1)).2
  exact va_getN (q0 := 0) (host := host) hexec hb hts hin hown hK.1 (g_P1 (q := (a, .inr (ci, fs))) h3) rfl hc k hk (va_Nw.use rfl (hK.nest hlink)) hsame (g_vR_spec h2) hdg kk
theorem g_put (hexec : p.tables.exec = Jvm.exec) (hb : c.code = cc) {own ref C : String} {T : u_T} {N ci index : Nat} {Ts : List Cond} (hts : ∀ w ∈ Ts, w.before args s = true) (hin : ∀ w ∈ u_ws C T N, w ∈ Ts) (ty0 : Nat → FieldType) (hty : ∀ k, k < N → parseFieldDescriptor (T k).2.2.1 = some (ty0 k)) (hnm : ∀ a, a < N → ∀ b, b < N → a ≠ b → (T a).2.1 ≠ (T b).2.1) (hown : s.vm.findClass own = some m.cls) (hK : g_K D cl nn oo s) (hW : g_W D cl A z s H) (hS0 : va_S A H0 H locs) (hc : cl[ci]? = some (C, T, N)) {k : Nat} (hk : k < N) (hlink : (Cond.fieldLink own index ref (T k).2.1 (T k).2.2.1).before args s = true) (hsame : ∀ x, s.fieldFound? (T k).1 (T k).2.1 (T k).2.2.1 = some x → s.fieldFound? ref (T k).2.1 (T k).2.2.1 = some x) (hfin : (T k).2.2.2 = false) {ty : FieldType} {v : Value} (hd : parseFieldDescriptor (T k).2.2.1 = some ty) (hn : narrow ty v = v) (hfit : fits ty v = true) (hv : g_pF z a ci k v = some z1)
    (hdg : decode cc pc = .ok (.putfield index, 3)) (kk : ∀ (H1 : Heap) (locs1 : List Loc), g_W D cl A z1 s H1 → va_S A H0 H1 locs1 → W p l e R s m args below meth c H1 locs1 cells slots Q (F0 m (pc + 3) ls rest)) : W p l e R s m args below meth c H locs cells slots Q (F0 m pc ls (v :: .ref a :: rest)) := by
  obtain ⟨fs, h1, h2⟩ := g_bd hv
  have hl : k < fs.length := by
    by_cases h : k < fs.length
    · exact h
    · rw [if_neg h] at h2; cases h2
  rw [if_pos hl] at h2
  cases h2
  obtain ⟨hA, h3⟩ := hW.2 a _ (g_o_spec h1)
  have hap := va_apart (own := own) hts hin ty0 hty hnm hK.1 hc
  obtain ⟨r, h4, cell, q1, q2, q3, q4⟩ := h3
  have hr : r = (C, T, N) := Option.some.inj (h4.symm.trans hc)
  subst hr
  obtain ⟨hS, hfc, kC, hkC, hkind⟩ := hK.1.1 ci _ hc
  obtain ⟨cf, kf, fi, f, hi, hsl⟩ := hS k hk
  have hlay := hts _ (hin _ (u_in_lay hk))
  unfold u_lay at hlay
  rw [if_neg (by rw [hfin]; decide)] at hlay
  have hst := (u_facts hfc hkC (u_lays hts hin hk) hi).1
  have h6 := u_store hfc hkC hkind hlay hi hd hn hfit
  refine W.putK hexec hb (f := f) ⟨hown, hlink, ⟨_, _, _, hsame _ hi⟩, hst⟩ (by rw [q2]; exact h6) q1 q3 (by rw [hsl]; exact k2_hasslot (q4 k hk)) rfl rfl hdg fun H' e1 e2 e3 => ?_
  rw [hsl] at e1 ⊢
  exact kk H' _ (hW.set hA (x := .inr (ci, fs.set k v)) ⟨_, hc, t_OB.to (V := updV (vp_V fs) k v) ⟨_, e1, q2, q3, t_set q4 hap hk v⟩ (fun j _ => vp_updV_set hl v j)⟩ e2 e3) (hS0.put e2 e3 hA)
theorem g_putN (hexec : p.tables.exec = Jvm.exec) (hb : c.code = cc) {own ref C host : String} {T : u_T} {N ci index : Nat} {Ts : List Cond} (hts : ∀ w ∈ Ts, w.before args s = true) (hin : ∀ w ∈ u_ws C T N, w ∈ Ts) (ty0 : Nat → FieldType) (hty : ∀ k, k < N → parseFieldDescriptor (T k).2.2.1 = some (ty0 k)) (hnm : ∀ a, a < N → ∀ b, b < N → a ≠ b → (T a).2.1 ≠ (T b).2.1) (hown : s.vm.findClass own = some m.cls) (hK : g_K D cl nn oo s) (hW : g_W D cl A z s H) (hS0 : va_S A H0 H locs) (hc : cl[ci]? = some (C, T, N)) {k : Nat} (hk : k < N) (hlink : Cond.fieldLinkNest own index ref (T k).2.1 (T k).2.2.1 host ∈ nn) (hsame : ∀ x, s.fieldFound? (T k).1 (T k).2.1 (T k).2.2.1 = some x → s.fieldFound? ref (T k).2.1 (T k).2.2.1 = some x) (hfin : (T k).2.2.2 = false) {ty : FieldType} {v : Value} (hd : parseFieldDescriptor (T k).2.2.1 = some ty) (hn : narrow ty v = v) (hfit : fits ty v = true) (hv : g_pF z a ci k v = some z1)
    (hdg : decode cc pc = .ok (.putfield index, 3)) (kk : ∀ (H1 : Heap) (locs1 : List Loc), g_W D cl A z1 s H1 → va_S A H0 H1 locs1 → W p l e R s m args below meth c H1 locs1 cells slots Q (F0 m (pc + 3) ls rest)) : W p l e R s m args below meth c H locs cells slots Q (F0 m pc ls (v :: .ref a :: rest)) := by
  obtain ⟨fs, h1, h2⟩ := g_bd hv
  have hl : k < fs.length := by
    by_cases h : k < fs.length
    · exact h
    · rw [if_neg h] at h2; cases h2
  rw [if_pos hl] at h2
  cases h2
  obtain ⟨hA, h3⟩ := hW.2 a _ (g_o_spec h1)
  have hap := va_apart (own := own) hts hin ty0 hty hnm hK.1 hc
  obtain ⟨r, h4, cell, q1, q2, q3, q4⟩ := h3
  have hr : r = (C, T, N) := Option.some.inj (h4.symm.trans hc)
  subst hr
  obtain ⟨hS, hfc, kC, hkC, hkind⟩ := hK.1.1 ci _ hc
  obtain ⟨cf, kf, fi, f, hi, hsl⟩ := hS k hk
  have hlay := hts _ (hin _ (u_in_lay hk))
  unfold u_lay at hlay
  rw [if_neg (by rw [hfin]; decide)] at hlay
  have hst := (u_facts hfc hkC (u_lays hts hin hk) hi).1
  have h6 := u_store hfc hkC hkind hlay hi hd hn hfit
  refine va_WputK (host := host) hexec hb (f := f) hown (va_Nw.use rfl (hK.nest hlink)) (hsame _ hi) hst (by rw [q2]; exact h6) q1 q3 (by rw [hsl]; exact k2_hasslot (q4 k hk)) rfl rfl hdg fun H' e1 e2 e3 => ?_
  rw [hsl] at e1 ⊢
  exact kk H' _ (hW.set hA (x := .inr (ci, fs.set k v)) ⟨_, hc, t_OB.to (V := updV (vp_V fs) k v) ⟨_, e1, q2, q3, t_set q4 hap hk v⟩ (fun j _ => vp_updV_set hl v j)⟩ e2 e3) (hS0.put e2 e3 hA)
theorem g_putF (hexec : p.tables.exec = Jvm.exec) (hb : c.code = cc) {own ref C : String} {T : u_T} {N ci index : Nat} {Ts : List Cond} (hts : ∀ w ∈ Ts, w.before args s = true) (hin : ∀ w ∈ u_ws C T N, w ∈ Ts) (ty0 : Nat → FieldType) (hty : ∀ k, k < N → parseFieldDescriptor (T k).2.2.1 = some (ty0 k)) (hnm : ∀ a, a < N → ∀ b, b < N → a ≠ b → (T a).2.1 ≠ (T b).2.1) (hown : s.vm.findClass own = some m.cls) (hK : g_K D cl nn oo s) (hW : g_W D cl A z s H) (hS0 : va_S A H0 H locs) (hc : cl[ci]? = some (C, T, N)) {k : Nat} (hk : k < N) (hlink : (Cond.fieldLink own index ref (T k).2.1 (T k).2.2.1).before args s = true) (hsame : ∀ x, s.fieldFound? (T k).1 (T k).2.1 (T k).2.2.1 = some x → s.fieldFound? ref (T k).2.1 (T k).2.2.1 = some x) (hfin : (T k).2.2.2 = true) (hin2 : meth.name = "<init>") (hdecl : (T k).1 = own) {ty : FieldType} {v : Value} (hd : parseFieldDescriptor (T k).2.2.1 = some ty) (hn : narrow ty v = v) (hfit : fits ty v = true) (hv : g_pF z a ci k v = some z1)
    (hdg : decode cc pc = .ok (.putfield index, 3)) (kk : ∀ (H1 : Heap) (locs1 : List Loc), g_W D cl A z1 s H1 → va_S A H0 H1 locs1 → W p l e R s m args below meth c H1 locs1 cells slots Q (F0 m (pc + 3) ls rest)) : W p l e R s m args below meth c H locs cells slots Q (F0 m pc ls (v :: .ref a :: rest)) := by
  obtain ⟨fs, h1, h2⟩ := g_bd hv
  have hl : k < fs.length := by
    by_cases h : k < fs.length
    · exact h
    · rw [if_neg h] at h2; cases h2
  rw [if_pos hl] at h2
  cases h2
  obtain ⟨hA, h3⟩ := hW.2 a _ (g_o_spec h1)
  have hap := va_apart (own := own) hts hin ty0 hty hnm hK.1 hc
  obtain ⟨r, h4, cell, q1, q2, q3, q4⟩ := h3
  have hr : r = (C, T, N) := Option.some.inj (h4.symm.trans hc)
  subst hr
  obtain ⟨hS, hfc, kC, hkC, hkind⟩ := hK.1.1 ci _ hc
  obtain ⟨cf, kf, fi, f, hi, hsl⟩ := hS k hk
  have hlay := hts _ (hin _ (u_in_lay hk))
  unfold u_lay at hlay
  rw [if_pos hfin] at hlay
  have hst := (u_facts hfc hkC (u_lays hts hin hk) hi).1
  have hcf : m.cls = cf := by
    obtain ⟨_, _, c', _, _, _, -, -, hf', -, -, -, hown2, -⟩ := Cond.laysFinal_spec hlay
    have e1 : c' = cf := by have := hi.symm.trans hf'; simp at this; exact this.1.symm
    rw [hdecl] at hown2
    rw [← e1]; exact Option.some.inj (hown.symm.trans hown2)
  have h6 := u_fits hfc hkC hkind (Or.inr hlay) hi hd hn hfit
  refine W.putFinK hexec hb hown hlink (hsame _ hi) hst hcf hin2 (by rw [q2]; exact h6) q1 q3 (by rw [hsl]; exact k2_hasslot (q4 k hk)) rfl rfl hdg fun H' e1 e2 e3 => ?_
  rw [hsl] at e1 ⊢
  exact kk H' _ (hW.set hA (x := .inr (ci, fs.set k v)) ⟨_, hc, t_OB.to (V := updV (vp_V fs) k v) ⟨_, e1, q2, q3, t_set q4 hap hk v⟩ (fun j _ => vp_updV_set hl v j)⟩ e2 e3) (hS0.put e2 e3 hA)
/-- new -/
theorem g_newO (hexec : p.tables.exec = Jvm.exec) (hb : c.code = cc) {own C : String} {T : u_T} {N ci index : Nat} {Ts : List Cond} (hts : ∀ w ∈ Ts, w.before args s = true) (hin : ∀ w ∈ u_ws C T N, w ∈ Ts) (ty : Nat → FieldType) (hty : ∀ k, k < N → parseFieldDescriptor (T k).2.2.1 = some (ty k)) (hown : s.vm.findClass own = some m.cls) (hcl : (Cond.classLink own index C).before args s = true) (hinst : (Cond.instantiable C N).before args s = true) (hini : (Cond.initialized C).before args s = true)
    (hK : g_K D cl nn oo s) (hW : g_W D cl A z s H) (hS : va_S A H0 H locs) (hA : ∀ q, H0.size ≤ q → A q) (hc : cl[ci]? = some (C, T, N)) {fs : List Value} (hfs : ∀ j, j < N → defaultValue (ty j) = vp_V fs j) (hcells : cells + 1 ≤ R.cells) (hslots : slots + N ≤ R.slots) {q : Nat} (hv : g_nwO z ci fs = some (q, z1)) (hdg : decode cc pc = .ok (.new index, 3))
    (kk : ∀ H1 : Heap, g_W D cl A z1 s H1 → va_S A H0 H1 locs → W p l e R s m args below meth c H1 locs (cells + 1) (slots + N) Q (F0 m (pc + 3) ls (.ref q :: rest))) : W p l e R s m args below meth c H locs cells slots Q (F0 m pc ls rest) := by
  have hv1 : z.2 = q ∧ g_nw z (.inr (ci, fs)) = z1 := by
    unfold g_nwO at hv
    simpa using hv
  obtain ⟨rfl, rfl⟩ := hv1
  have hKn := hK.1.1 ci _ hc
  refine W.newcK hexec hb hown hcl hinst hini rfl hdg hcells hslots hKn.2.1 hW.1 fun H1 kC hkC e1 z2 o1 => ?_
  have e3 := hW.1
  refine kk H1 (hW.new (hA _ hS.1) ?_ (by rw [e3]; exact z2) (by rw [e3]; exact o1)) ⟨Nat.le_trans hS.1 (by omega), fun x h1 h2 => (o1 x (by have := hS.1; omega)).trans (hS.2.1 x h1 h2), hS.2.2⟩
  rw [e3]
  exact ⟨_, hc, (u_born ty hts hin hKn hkC e1 hty).to hfs⟩
theorem g_newI (hexec : p.tables.exec = Jvm.exec) (hb : c.code = cc) {atype : ArrayType} (harr : (Cond.arrayClass (newarray.typeOf atype)).before args s = true) {ty : FieldType} (hty : newarray.typeOf atype = ty) (hdv : defaultValue ty = .int 0) (hW : g_W D cl A z s H) (hS : va_S A H0 H locs) (hA : ∀ q, H0.size ≤ q → A q)
    {n : Int32} {B q : Nat} (hB : B * componentBytes ty ≤ 536870912) (hcells : cells + 1 ≤ R.cells) (hslots : slots + B ≤ R.slots) (hv : g_nwI z ty n B = some (q, z1)) (hdg : decode cc pc = .ok (.newarray atype, 2))
    (kk : ∀ H1 : Heap, g_W D cl A z1 s H1 → va_S A H0 H1 locs → W p l e R s m args below meth c H1 locs (cells + 1) (slots + B) Q (F0 m (pc + 2) ls (.ref q :: rest))) : W p l e R s m args below meth c H locs cells slots Q (F0 m pc ls (.int n :: rest)) := by
  unfold g_nwI at hv
  by_cases hn : n < 0 ∨ B < n.toNatClampNeg
  · rw [if_pos hn] at hv; cases hv
  · rw [if_neg hn] at hv
    have hn0 : ¬ n < 0 := fun h => hn (Or.inl h)
    have hnB : n.toNatClampNeg ≤ B := Nat.not_lt.mp fun h => hn (Or.inr h)
    have hv1 : z.2 = q ∧ g_nw z (.inl (ty, n.toNatClampNeg, .inl (fun _ => 0))) = z1 := by simpa using hv
    obtain ⟨rfl, rfl⟩ := hv1
    subst hty
    have e3 := hW.1
    refine va_newaK hexec hb harr rfl hdg rfl hn0 rfl (Nat.le_trans (Nat.mul_le_mul_right _ hnB) hB) hcells (by omega) hW.1 fun H1 cA e1 z2 o1 hAr hNm => ?_
    refine W.widen (k := cells + 1) (n := slots + B) (Nat.le_refl _) (by omega) ?_
    refine kk H1 (hW.new (hA _ hS.1) ?_ (by rw [e3]; exact z2) (by rw [e3]; exact o1)) ⟨Nat.le_trans hS.1 (by omega), fun x h1 h2 => (o1 x (by have := hS.1; omega)).trans (hS.2.1 x h1 h2), hS.2.2⟩
    rw [e3]
    refine ⟨cA, ?_, hAr, by cases atype <;> exact hNm⟩
    show H1[z.2]? = some (vp_cell _ _)
    rw [vp_cell_i, e1, hdv]
theorem g_newR (hexec : p.tables.exec = Jvm.exec) (hb : c.code = cc) {own C : String} {index : Nat} (hown : s.vm.findClass own = some m.cls) (hclink : (Cond.classLink own index C).before args s = true) (hK : g_K D cl nn oo s) (hover : C ∈ oo) (hW : g_W D cl A z s H) (hS : va_S A H0 H locs) (hA : ∀ q, H0.size ≤ q → A q)
    {n : Int32} {B q : Nat} (hB : B * 4 ≤ 536870912) (hcells : cells + 1 ≤ R.cells) (hslots : slots + B ≤ R.slots) (hv : g_nwR z (.object C) n B = some (q, z1)) (hdg : decode cc pc = .ok (.anewarray index, 3))
    (kk : ∀ H1 : Heap, g_W D cl A z1 s H1 → va_S A H0 H1 locs → W p l e R s m args below meth c H1 locs (cells + 1) (slots + B) Q (F0 m (pc + 3) ls (.ref q :: rest))) : W p l e R s m args below meth c H locs cells slots Q (F0 m pc ls (.int n :: rest)) := by
  unfold g_nwR at hv
  by_cases hn : n < 0 ∨ B < n.toNatClampNeg
  · rw [if_pos hn] at hv; cases hv
  · rw [if_neg hn] at hv
    have hn0 : ¬ n < 0 := fun h => hn (Or.inl h)
    have hnB : n.toNatClampNeg ≤ B := Nat.not_lt.mp fun h => hn (Or.inr h)
    have hv1 : z.2 = q ∧ g_nw z (.inl (.object C, n.toNatClampNeg, .inr (.inr (.inr (.inr (fun _ => none)))))) = z1 := by simpa using hv
    obtain ⟨rfl, rfl⟩ := hv1
    have e3 := hW.1
    refine W.anew hexec hb hown hclink (va_AO.use (hK.2.2 C hover)) rfl hdg rfl hn0 (Nat.le_trans (Nat.mul_le_mul_right _ hnB) hB) hcells (by omega) fun cA kA comp f1 f2 f3 f4 => ?_
    refine W.widen (k := cells + 1) (n := slots + B) (Nat.le_refl _) (by omega) ?_
    generalize hH1 : H.push ({ cls := cA, slots := Array.replicate n.toNatClampNeg .null, vm := .none } : Cell) = H1
    have z2 : H1.size = H.size + 1 := by rw [← hH1, Array.size_push]
    have e1 : H1[H.size]? = some (arrV cA n.toNatClampNeg (fun _ => .null)) := by rw [← hH1, Array.getElem?_push_size, ← arrV_new]
    have o1 : ∀ q : Nat, q < H.size → H1[q]? = H[q]? := fun q hq => by rw [← hH1, Array.getElem?_push, if_neg (Nat.ne_of_lt hq)]
    have k1 := kk H1 (hW.new (hA _ hS.1) ?_ z2 o1) ⟨Nat.le_trans hS.1 (by omega), fun x h1 h2 => (o1 x (by have := hS.1; omega)).trans (hS.2.1 x h1 h2), hS.2.2⟩
    · rw [← e3] at k1
      exact k1
    refine ⟨cA, ?_, fun N z => ⟨(fun k h => by cases h), kA, f2, comp, f3⟩, kA, comp, f2, f3, f4, f1⟩
    show H1[H.size]? = some (vp_cell _ _)
    rw [vp_cell_q]
    exact e1
/-- arrays: one cell of the ghost heap as the kit's world of one cell -/
theorem g_K1 {cA : ClassId} {ty : FieldType} (hK : g_K D cl nn oo s) (h1 : ArrOfT s cA ty) (h2 : va_RA s cA ty) : va_K D cl [(cA, ty)] s := by
  refine ⟨hK.1.1, fun k q hk => ?_⟩
  have hz : k < 1 := (List.getElem?_eq_some_iff.mp hk).1
  rw [show k = 0 by omega] at hk
  cases hk
  exact ⟨h1, h2⟩
theorem g_ald_i (hexec : p.tables.exec = Jvm.exec) (hb : c.code = cc) (hK : g_K D cl nn oo s) (hW : g_W D cl A z s H) {i v : Int32} (hv : g_ldI z .int a i = some v) (hdg : decode cc pc = .ok (.iaload, 1))
    (kk : W p l e R s m args below meth c H locs cells slots Q (F0 m (pc + 1) ls (.int v :: rest))) : W p l e R s m args below meth c H locs cells slots Q (F0 m pc ls (.int i :: .ref a :: rest)) := by
  obtain ⟨y, h1, h2⟩ := g_bd hv
  obtain ⟨-, cA, h3, h4, h5⟩ := hW.2 a _ (g_aI_spec h1)
  by_cases hn : i < 0 ∨ y.1 ≤ i.toNatClampNeg
  · rw [if_pos hn] at h2; cases h2
  · rw [if_neg hn] at h2
    cases h2
    exact va_iald hexec hb (g_K1 hK h4 h5) (g_P1 h3) 0 0 rfl rfl hn hdg kk
theorem g_ald_c (hexec : p.tables.exec = Jvm.exec) (hb : c.code = cc) (hK : g_K D cl nn oo s) (hW : g_W D cl A z s H) {i v : Int32} (hv : g_ldI z .char a i = some v) (hdg : decode cc pc = .ok (.caload, 1))
    (kk : W p l e R s m args below meth c H locs cells slots Q (F0 m (pc + 1) ls (.int v :: rest))) : W p l e R s m args below meth c H locs cells slots Q (F0 m pc ls (.int i :: .ref a :: rest)) := by
  obtain ⟨y, h1, h2⟩ := g_bd hv
  obtain ⟨-, cA, h3, h4, h5⟩ := hW.2 a _ (g_aI_spec h1)
  by_cases hn : i < 0 ∨ y.1 ≤ i.toNatClampNeg
  · rw [if_pos hn] at h2; cases h2
  · rw [if_neg hn] at h2
    cases h2
    exact va_cald hexec hb (g_K1 hK h4 h5) (g_P1 h3) 0 0 rfl rfl hn hdg kk
theorem g_ald_z (hexec : p.tables.exec = Jvm.exec) (hb : c.code = cc) (hK : g_K D cl nn oo s) (hW : g_W D cl A z s H) {i v : Int32} (hv : g_ldI z .boolean a i = some v) (hdg : decode cc pc = .ok (.baload, 1))
    (kk : W p l e R s m args below meth c H locs cells slots Q (F0 m (pc + 1) ls (.int v :: rest))) : W p l e R s m args below meth c H locs cells slots Q (F0 m pc ls (.int i :: .ref a :: rest)) := by
  obtain ⟨y, h1, h2⟩ := g_bd hv
  obtain ⟨-, cA, h3, h4, h5⟩ := hW.2 a _ (g_aI_spec h1)
  by_cases hn : i < 0 ∨ y.1 ≤ i.toNatClampNeg
  · rw [if_pos hn] at h2; cases h2
  · rw [if_neg hn] at h2
    cases h2
    exact va_zald hexec hb (g_K1 hK h4 h5) (g_P1 h3) 0 0 rfl rfl hn hdg kk
theorem g_ald_r (hexec : p.tables.exec = Jvm.exec) (hb : c.code = cc) (hK : g_K D cl nn oo s) (hW : g_W D cl A z s H) {C : String} {i : Int32} {v : Option Nat} (hv : g_ldR z (.object C) a i = some v) (hdg : decode cc pc = .ok (.aaload, 1))
    (kk : W p l e R s m args below meth c H locs cells slots Q (F0 m (pc + 1) ls (va_rf v :: rest))) : W p l e R s m args below meth c H locs cells slots Q (F0 m pc ls (.int i :: .ref a :: rest)) := by
  obtain ⟨y, h1, h2⟩ := g_bd hv
  obtain ⟨-, cA, h3, h4, h5⟩ := hW.2 a _ (g_aR_spec h1)
  by_cases hn : i < 0 ∨ y.1 ≤ i.toNatClampNeg
  · rw [if_pos hn] at h2; cases h2
  · rw [if_neg hn] at h2
    cases h2
    exact va_aldq hexec hb (g_K1 hK h4 h5) (g_P1 h3) 0 0 rfl rfl hn hdg kk
theorem g_alen (hexec : p.tables.exec = Jvm.exec) (hb : c.code = cc) (hK : g_K D cl nn oo s) (hW : g_W D cl A z s H) {v : Int32} (hv : g_len z a = some v) (hdg : decode cc pc = .ok (.arraylength, 1))
    (kk : W p l e R s m args below meth c H locs cells slots Q (F0 m (pc + 1) ls (.int v :: rest))) : W p l e R s m args below meth c H locs cells slots Q (F0 m pc ls (.ref a :: rest)) := by
  unfold g_len at hv
  split at hv
  · rename_i y hy
    cases hv
    obtain ⟨-, cA, h3, h4, h5⟩ := hW.2 a _ hy
    exact va_alen hexec hb (g_K1 hK h4 h5) (g_P1 h3) 0 0 rfl rfl rfl hdg kk
  · cases hv
theorem g_ast_i (hexec : p.tables.exec = Jvm.exec) (hb : c.code = cc) (hW : g_W D cl A z s H) (hS : va_S A H0 H locs) {i x : Int32} (hv : g_stI z .int a i x = some z1) (hdg : decode cc pc = .ok (.iastore, 1))
    (kk : ∀ (H1 : Heap) (locs1 : List Loc), g_W D cl A z1 s H1 → va_S A H0 H1 locs1 → W p l e R s m args below meth c H1 locs1 cells slots Q (F0 m (pc + 1) ls rest)) : W p l e R s m args below meth c H locs cells slots Q (F0 m pc ls (.int x :: .int i :: .ref a :: rest)) := by
  obtain ⟨y, h1, h2⟩ := g_bd hv
  obtain ⟨hA, cA, h3, h4, h5⟩ := hW.2 a _ (g_aI_spec h1)
  by_cases hn : i < 0 ∨ y.1 ≤ i.toNatClampNeg
  · rw [if_pos hn] at h2; cases h2
  · rw [if_neg hn] at h2
    cases h2
    refine W.iast hexec hb h3 (h4 y.1 (fun j => .int (y.2 j))) (fun q => by cases q) (by show ¬ (i < 0 ∨ (arrV _ _ _).slots.size ≤ _); rw [arrV_size]; exact hn) rfl rfl hdg fun H1 e2 z2 oq => ?_
    refine kk H1 _ (hW.set hA ⟨cA, ?_, h4, h5⟩ z2 oq) (hS.put z2 oq hA)
    show H1[a]? = some (vp_cell _ _)
    rw [e2]
    rw [vp_cell_i, vp_cell_i, arrV_store]
    congr 2
    funext q
    by_cases hq : q = i.toNatClampNeg
    · subst hq
      simp [updV, upd]
    · simp [updV, upd, hq]
theorem g_ast_c (hexec : p.tables.exec = Jvm.exec) (hb : c.code = cc) (hW : g_W D cl A z s H) (hS : va_S A H0 H locs) {i x : Int32} (hv : g_stI z .char a i (vp_nar .char x) = some z1) (hdg : decode cc pc = .ok (.castore, 1))
    (kk : ∀ (H1 : Heap) (locs1 : List Loc), g_W D cl A z1 s H1 → va_S A H0 H1 locs1 → W p l e R s m args below meth c H1 locs1 cells slots Q (F0 m (pc + 1) ls rest)) : W p l e R s m args below meth c H locs cells slots Q (F0 m pc ls (.int x :: .int i :: .ref a :: rest)) := by
  obtain ⟨y, h1, h2⟩ := g_bd hv
  obtain ⟨hA, cA, h3, h4, h5⟩ := hW.2 a _ (g_aI_spec h1)
  by_cases hn : i < 0 ∨ y.1 ≤ i.toNatClampNeg
  · rw [if_pos hn] at h2; cases h2
  · rw [if_neg hn] at h2
    cases h2
    refine W.cast hexec hb h3 (h4 y.1 (fun j => .int (y.2 j))) (fun q => by cases q) (by show ¬ (i < 0 ∨ (arrV _ _ _).slots.size ≤ _); rw [arrV_size]; exact hn) rfl rfl hdg fun H1 e2 z2 oq => ?_
    refine kk H1 _ (hW.set hA ⟨cA, ?_, h4, h5⟩ z2 oq) (hS.put z2 oq hA)
    show H1[a]? = some (vp_cell _ _)
    rw [e2]
    rw [vp_cell_i, vp_cell_i, arrV_store]
    congr 2
    funext q
    by_cases hq : q = i.toNatClampNeg
    · subst hq
      simp [updV, upd, vp_nar]
      try rfl
    · simp [updV, upd, hq]
theorem g_ast_z (hexec : p.tables.exec = Jvm.exec) (hb : c.code = cc) (hW : g_W D cl A z s H) (hS : va_S A H0 H locs) {i x : Int32} (hv : g_stI z .boolean a i (vp_nar .boolean x) = some z1) (hdg : decode cc pc = .ok (.bastore, 1))
    (kk : ∀ (H1 : Heap) (locs1 : List Loc), g_W D cl A z1 s H1 → va_S A H0 H1 locs1 → W p l e R s m args below meth c H1 locs1 cells slots Q (F0 m (pc + 1) ls rest)) : W p l e R s m args below meth c H locs cells slots Q (F0 m pc ls (.int x :: .int i :: .ref a :: rest)) := by
  obtain ⟨y, h1, h2⟩ := g_bd hv
  obtain ⟨hA, cA, h3, h4, h5⟩ := hW.2 a _ (g_aI_spec h1)
  by_cases hn : i < 0 ∨ y.1 ≤ i.toNatClampNeg
  · rw [if_pos hn] at h2; cases h2
  · rw [if_neg hn] at h2
    cases h2
    refine W.zast hexec hb h3 (h4 y.1 (fun j => .int (y.2 j))) (fun q => by cases q) (by show ¬ (i < 0 ∨ (arrV _ _ _).slots.size ≤ _); rw [arrV_size]; exact hn) rfl rfl hdg fun H1 e2 z2 oq => ?_
    refine kk H1 _ (hW.set hA ⟨cA, ?_, h4, h5⟩ z2 oq) (hS.put z2 oq hA)
    show H1[a]? = some (vp_cell _ _)
    rw [e2]
    rw [vp_cell_i, vp_cell_i, arrV_store]
    congr 2
    funext q
    by_cases hq : q = i.toNatClampNeg
    · subst hq
      simp [updV, upd, vp_nar]
      try rfl
    · simp [updV, upd, hq]
theorem g_ast_n (hexec : p.tables.exec = Jvm.exec) (hb : c.code = cc) (hW : g_W D cl A z s H) (hS : va_S A H0 H locs) {C : String} {i : Int32} (hv : g_stR z (.object C) a i none = some z1) (hdg : decode cc pc = .ok (.aastore, 1))
    (kk : ∀ (H1 : Heap) (locs1 : List Loc), g_W D cl A z1 s H1 → va_S A H0 H1 locs1 → W p l e R s m args below meth c H1 locs1 cells slots Q (F0 m (pc + 1) ls rest)) : W p l e R s m args below meth c H locs cells slots Q (F0 m pc ls (.null :: .int i :: .ref a :: rest)) := by
  obtain ⟨y, h1, h2⟩ := g_bd hv
  obtain ⟨hA, cA, h3, h4, h5⟩ := hW.2 a _ (g_aR_spec h1)
  by_cases hn : i < 0 ∨ y.1 ≤ i.toNatClampNeg
  · rw [if_pos hn] at h2; cases h2
  · rw [if_neg hn] at h2
    cases h2
    refine va_WaastN (C := C) hexec hb h3 (h4 y.1 (fun j => va_rf (y.2 j))) (fun h => by cases h) (by show ¬ (i < 0 ∨ (arrV _ _ _).slots.size ≤ _); rw [arrV_size]; exact hn) rfl rfl hdg fun H1 e2 z2 oq => ?_
    refine kk H1 _ (hW.set hA ⟨cA, ?_, h4, h5⟩ z2 oq) (hS.put z2 oq hA)
    show H1[a]? = some (vp_cell _ _)
    rw [e2]
    rw [vp_cell_q, vp_cell_q, arrV_store]
    congr 2
    funext q
    by_cases hq : q = i.toNatClampNeg
    · subst hq
      simp [updV, va_up, va_rf]
    · simp [updV, va_up, hq]
theorem g_ast_r (hexec : p.tables.exec = Jvm.exec) (hb : c.code = cc) (hK : g_K D cl nn oo s) (hW : g_W D cl A z s H) (hS : va_S A H0 H locs) {r : vw_C} {ci v : Nat} (hc : cl[ci]? = some r) {i : Int32} (hi : g_is z v ci = some ()) (hv : g_stR z (.object r.1) a i (some v) = some z1) (hdg : decode cc pc = .ok (.aastore, 1))
    (kk : ∀ (H1 : Heap) (locs1 : List Loc), g_W D cl A z1 s H1 → va_S A H0 H1 locs1 → W p l e R s m args below meth c H1 locs1 cells slots Q (F0 m (pc + 1) ls rest)) : W p l e R s m args below meth c H locs cells slots Q (F0 m pc ls (.ref v :: .int i :: .ref a :: rest)) := by
  obtain ⟨y, h1, h2⟩ := g_bd hv
  obtain ⟨fs, h6, -⟩ := g_bd hi
  obtain ⟨hA, cA, h3, h4, h5⟩ := hW.2 a _ (g_aR_spec h1)
  by_cases hn : i < 0 ∨ y.1 ≤ i.toNatClampNeg
  · rw [if_pos hn] at h2; cases h2
  · rw [if_neg hn] at h2
    cases h2
    have hlt : i.toNatClampNeg < y.1 := Nat.not_le.mp fun q => hn (Or.inr q)
    have h0 : ¬ i < 0 := fun q => hn (Or.inl q)
    obtain ⟨r', hr', cellV, g1, g2, g3, -⟩ := (hW.2 v _ (g_o_spec h6)).2
    have hcls := (hK.1.1 ci r hc).2
    have h5' := h5
    obtain ⟨kA, comp, k1, k2, k3, -⟩ := h5'
    have hcomp : comp = D.1 ci := Option.some.inj (k3.symm.trans hcls.1)
    subst hcomp
    obtain ⟨kC, hkC, -⟩ := hcls.2
    refine W.aast hexec hb h3 (fun q h => by cases h) (fun h => by cases h) k1 k2 rfl hkC ⟨h0, by show _ < (arrV _ _ _).slots.size; rw [arrV_size]; exact hlt⟩ g1 (fun q h => by rw [g3] at h; cases h) (by rw [g2]; exact hkC) (by rw [g2]; exact va_assign hcls) rfl rfl hdg fun H1 e2 z2 oq => ?_
    refine kk H1 _ (hW.set hA ⟨cA, ?_, h4, h5⟩ z2 oq) (hS.put z2 oq hA)
    show H1[a]? = some (vp_cell _ _)
    rw [e2]
    rw [vp_cell_q, vp_cell_q, arrV_store]
    congr 2
    funext q
    by_cases hq : q = i.toNatClampNeg
    · subst hq
      simp [updV, va_up, va_rf]
    · simp [updV, va_up, hq]
end GR
end
section
section GC
variable {p : Program} {l : Launch} {e : Env} {R : Room} {s : State} {m : MethodId} {args : Array Value} {below : List Frame} {meth : Method} {c : Code} {H : Heap} {locs : List Loc} {cells slots : Nat} {Q : State → Prop}
variable {cc bytes : ByteArray} {pc : Nat} {ls : Array Slot} {rest st0 As : List Value} {D : va_G} {cl : List vw_C} {A : Nat → Prop} {a b : Nat} {z z1 : gS} {nn : List Cond} {oo : List String}
variable {y : MethodName} {maxL nL mc ms n index : Nat} {ret : Option FieldType} {ws Ts : List Cond} {rm : Room} {Qc : Array Value → State → Outcome → State → Prop} {own C host : String}
theorem g_preS {av : List Value} (hK : g_K D cl nn oo s) (hW : g_W D cl A z s H) (hS : va_S A s.heap H locs) (hA : ∀ q : Nat, s.heap.size ≤ q → A q) : PreS s H (g_P D cl nn oo A z av) av := by
  refine ⟨g_P.blind, fun U hU hw => ⟨rfl, ?_, hK.warm hw, fun q hq => hA q (Nat.le_trans hS.1 (by rw [hW.1]; exact hq))⟩⟩
  rw [hU]
  exact hW.moved hw.alike
theorem g_recv {ci : Nat} {q : vw_C} (hK : g_K D cl nn oo s) (hW : g_W D cl A z s H) (hc : cl[ci]? = some q) (hi : g_is z b ci = some ()) : ∃ cell : Cell, H[b]? = some cell ∧ cell.vm.isStatics = false ∧ s.vm.findClass q.1 = some cell.cls := by
  obtain ⟨fs, h6, -⟩ := g_bd hi
  exact va_recv hK.1 (g_P1 (q := (b, .inr (ci, fs))) (hW.2 b _ (g_o_spec h6)).2) hc (q0 := 0) rfl
theorem g_rV (S : CallFix p m c cc nL s args Ts own) (hM : Met l y ws rm (g_P D cl nn oo A z (.ref b :: As)) Qc mc ms A) (cw : CallW R s args own C index y bytes maxL ret ws rm mc ms n) (hK : g_K D cl nn oo s) (hW : g_W D cl A z s H) (hS : va_S A s.heap H locs) (hA : ∀ q : Nat, s.heap.size ≤ q → A q) {ci N : Nat} {T : u_T} (hc : cl[ci]? = some (C, T, N)) (hi : g_is z b ci = some ())
    (hn : As.length = n) (hsize : ls.size = nL) (hstack : st0 = As.reverse ++ .ref b :: rest) (hR : (rest.map fun v => v.category).sum ≤ 8) (hdg : decode cc pc = .ok (.invokevirtual index, 3)) (hf : cells + mc ≤ R.cells ∧ slots + ms ≤ R.slots) :
    va_Run p l e R s m args below meth c H locs cells slots mc ms (F0 m pc ls st0) rest (Qc (Value.ref b :: As).toArray) A :=
  va_runV S hM cw ⟨(g_preS hK hW hS hA).1, g_recv hK hW hc hi, (g_preS hK hW hS hA).2⟩ rfl hn hsize hstack (lv_room hR) hdg hf
theorem g_rVN (S : CallFix p m c cc nL s args Ts own) (hM : Met l y ws rm (g_P D cl nn oo A z (.ref b :: As)) Qc mc ms A) (cw : va_CN R s args own index y host bytes maxL ret ws rm mc ms n ∧ (Cond.instanceMethod y).before args s = true ∧ (Cond.selects C y y).before args s = true) (hK : g_K D cl nn oo s) (hW : g_W D cl A z s H) (hS : va_S A s.heap H locs) (hA : ∀ q : Nat, s.heap.size ≤ q → A q) {ci N : Nat} {T : u_T} (hc : cl[ci]? = some (C, T, N)) (hi : g_is z b ci = some ())
    (hn : As.length = n) (hsize : ls.size = nL) (hstack : st0 = As.reverse ++ .ref b :: rest) (hR : (rest.map fun v => v.category).sum ≤ 8) (hdg : decode cc pc = .ok (.invokevirtual index, 3)) (hf : cells + mc ≤ R.cells ∧ slots + ms ≤ R.slots) :
    va_Run p l e R s m args below meth c H locs cells slots mc ms (F0 m pc ls st0) rest (Qc (Value.ref b :: As).toArray) A :=
  va_runVN S hM cw ⟨(g_preS hK hW hS hA).1, g_recv hK hW hc hi, (g_preS hK hW hS hA).2⟩ rfl hn hsize hstack (lv_room hR) hdg hf
theorem g_rS (S : CallFix p m c cc nL s args Ts own) (hM : Met l y ws rm (g_P D cl nn oo A z As) Qc mc ms A) (cw : CallB R s args own index y bytes maxL ret ws rm mc ms n ∧ (Cond.static y).before args s = true) (hK : g_K D cl nn oo s) (hW : g_W D cl A z s H) (hS : va_S A s.heap H locs) (hA : ∀ q : Nat, s.heap.size ≤ q → A q)
    (hn : As.length = n) (hsize : ls.size = nL) (hstack : st0 = As.reverse ++ rest) (hR : (rest.map fun v => v.category).sum ≤ 8) (hdg : decode cc pc = .ok (.invokestatic index, 3)) (hf : cells + mc ≤ R.cells ∧ slots + ms ≤ R.slots) :
    va_Run p l e R s m args below meth c H locs cells slots mc ms (F0 m pc ls st0) rest (Qc As.toArray) A :=
  va_runS S hM cw (g_preS hK hW hS hA) rfl hn hsize hstack (lv_room hR) hdg hf
theorem g_rSN (S : CallFix p m c cc nL s args Ts own) (hM : Met l y ws rm (g_P D cl nn oo A z As) Qc mc ms A) (cw : va_CN R s args own index y host bytes maxL ret ws rm mc ms n ∧ (Cond.static y).before args s = true ∧ True) (hK : g_K D cl nn oo s) (hW : g_W D cl A z s H) (hS : va_S A s.heap H locs) (hA : ∀ q : Nat, s.heap.size ≤ q → A q)
    (hn : As.length = n) (hsize : ls.size = nL) (hstack : st0 = As.reverse ++ rest) (hR : (rest.map fun v => v.category).sum ≤ 8) (hdg : decode cc pc = .ok (.invokestatic index, 3)) (hf : cells + mc ≤ R.cells ∧ slots + ms ≤ R.slots) :
    va_Run p l e R s m args below meth c H locs cells slots mc ms (F0 m pc ls st0) rest (Qc As.toArray) A :=
  va_runSN S hM cw (g_preS hK hW hS hA) rfl hn hsize hstack (lv_room hR) hdg hf
theorem g_rI (S : CallFix p m c cc nL s args Ts own) (hM : Met l y ws rm (g_P D cl nn oo A z (.ref b :: As)) Qc mc ms A) (cw : CallB R s args own index y bytes maxL none ws rm mc ms n ∧ y.name = "<init>" ∧ (Cond.instanceMethod y).before args s = true) (hK : g_K D cl nn oo s) (hW : g_W D cl A z s H) (hS : va_S A s.heap H locs) (hA : ∀ q : Nat, s.heap.size ≤ q → A q)
    (hn : As.length = n) (hsize : ls.size = nL) (hstack : st0 = As.reverse ++ .ref b :: rest) (hR : (rest.map fun v => v.category).sum ≤ 8) (hdg : decode cc pc = .ok (.invokespecial index, 3)) (hf : cells + mc ≤ R.cells ∧ slots + ms ≤ R.slots) :
    va_Run p l e R s m args below meth c H locs cells slots mc ms (F0 m pc ls st0) rest (Qc (Value.ref b :: As).toArray) A :=
  va_runI S hM cw (g_preS hK hW hS hA) rfl hn hsize hstack (lv_room hR) hdg hf
theorem g_rIN (S : CallFix p m c cc nL s args Ts own) (hM : Met l y ws rm (g_P D cl nn oo A z (.ref b :: As)) Qc mc ms A) (cw : va_CN R s args own index y host bytes maxL none ws rm mc ms n ∧ y.name = "<init>" ∧ (Cond.instanceMethod y).before args s = true) (hK : g_K D cl nn oo s) (hW : g_W D cl A z s H) (hS : va_S A s.heap H locs) (hA : ∀ q : Nat, s.heap.size ≤ q → A q)
    (hn : As.length = n) (hsize : ls.size = nL) (hstack : st0 = As.reverse ++ .ref b :: rest) (hR : (rest.map fun v => v.category).sum ≤ 8) (hdg : decode cc pc = .ok (.invokespecial index, 3)) (hf : cells + mc ≤ R.cells ∧ slots + ms ≤ R.slots) :
    va_Run p l e R s m args below meth c H locs cells slots mc ms (F0 m pc ls st0) rest (Qc (Value.ref b :: As).toArray) A :=
  va_runIN S hM cw (g_preS hK hW hS hA) rfl hn hsize hstack (lv_room hR) hdg hf
theorem g_goi {av : Array Value} {r : Int32} (hr : va_Run p l e R s m args below meth c H locs cells slots mc ms (F0 m pc ls st0) rest (g_Qi D cl A r z1 av) A) (hS : va_S A s.heap H locs)
    (kk : ∀ (H1 : Heap) (locs1 : List Loc), g_W D cl A z1 s H1 → va_S A s.heap H1 locs1 → W p l e R s m args below meth c H1 locs1 (cells + mc) (slots + ms) Q (F0 m (pc + 3) ls (.int r :: rest))) : W p l e R s m args below meth c H locs cells slots Q (F0 m pc ls st0) := by
  refine va_calli hr hS (fun q _ h => h) (fun q h => h) (fun r1 u t H1 locs1 ht hvm hw hB hz1 hk1 hS1 => ?_)
  subst hw
  rw [ht] at hB
  exact kk H1 locs1 (hB.moved hvm.symm) hS1
theorem g_gov {av : Array Value} (hr : va_Run p l e R s m args below meth c H locs cells slots mc ms (F0 m pc ls st0) rest (g_Qv D cl A z1 av) A) (hS : va_S A s.heap H locs)
    (kk : ∀ (H1 : Heap) (locs1 : List Loc), g_W D cl A z1 s H1 → va_S A s.heap H1 locs1 → W p l e R s m args below meth c H1 locs1 (cells + mc) (slots + ms) Q (F0 m (pc + 3) ls rest)) : W p l e R s m args below meth c H locs cells slots Q (F0 m pc ls st0) := by
  refine va_callv hr hS (fun q _ h => h) (fun q h => h) (fun u t H1 locs1 ht hvm hw hB hz1 hk1 hS1 => ?_)
  rw [ht] at hB
  exact kk H1 locs1 (hB.moved hvm.symm) hS1
theorem g_goq {av : Array Value} {r : Option Nat} (hr : va_Run p l e R s m args below meth c H locs cells slots mc ms (F0 m pc ls st0) rest (g_Qq D cl A r z1 av) A) (hS : va_S A s.heap H locs)
    (kk : ∀ (H1 : Heap) (locs1 : List Loc), g_W D cl A z1 s H1 → va_S A s.heap H1 locs1 → W p l e R s m args below meth c H1 locs1 (cells + mc) (slots + ms) Q (F0 m (pc + 3) ls (va_rf r :: rest))) : W p l e R s m args below meth c H locs cells slots Q (F0 m pc ls st0) := by
  refine va_callq hr hS (fun q _ h => h) (fun q h => h) (fun r1 u t H1 locs1 ht hvm hw hB hz1 hk1 hS1 => ?_)
  subst hw
  rw [ht] at hB
  exact kk H1 locs1 (hB.moved hvm.symm) hS1
/-- the ends -/
theorem g_reti {v : Int32} (hexec : p.tables.exec = Jvm.exec) (hb : c.code = cc) (hr : meth.sig.returnType = some .int) (hlocks : meth.locks = false) (hW : g_W D cl A z s H) (hS : va_S A s.heap H locs) (h1 : cells ≤ mc) (h2 : slots ≤ ms) (hdg : decode cc pc = .ok (.ireturn, 1)) : W p l e R s m args below meth c H locs cells slots (MQ below (g_Qi D cl A v z) args s mc ms A) (F0 m pc ls [.int v]) := by
  refine W.widen h1 h2 (W.iret hexec hb hr (fun t ht hw => ⟨⟨v, (), rfl, rfl, ?_⟩, hS.F ht⟩) hS.2.2 hdg hlocks)
  show g_W D cl A z t t.heap
  rw [ht]
  exact hW.moved hw.alike
theorem g_retz {v : Int32} {ty : FieldType} (hexec : p.tables.exec = Jvm.exec) (hb : c.code = cc) (hr : meth.sig.returnType = some ty) (hn : narrow ty (.int v) = .int v) (hlocks : meth.locks = false) (hW : g_W D cl A z s H) (hS : va_S A s.heap H locs) (h1 : cells ≤ mc) (h2 : slots ≤ ms) (hdg : decode cc pc = .ok (.ireturn, 1)) : W p l e R s m args below meth c H locs cells slots (MQ below (g_Qi D cl A v z) args s mc ms A) (F0 m pc ls [.int v]) := by
  refine W.widen h1 h2 (W.zret hexec hb hr hn (fun t ht hw => ⟨⟨v, (), rfl, rfl, ?_⟩, hS.F ht⟩) hS.2.2 hdg hlocks)
  show g_W D cl A z t t.heap
  rw [ht]
  exact hW.moved hw.alike
theorem g_retv (hexec : p.tables.exec = Jvm.exec) (hb : c.code = cc) (hr : meth.sig.returnType = none) (hlocks : meth.locks = false) (hW : g_W D cl A z s H) (hS : va_S A s.heap H locs) (h1 : cells ≤ mc) (h2 : slots ≤ ms) (hdg : decode cc pc = .ok (.return_, 1)) : W p l e R s m args below meth c H locs cells slots (MQ below (g_Qv D cl A z) args s mc ms A) (F0 m pc ls []) := by
  refine W.widen h1 h2 (W.vret hexec hb hr (fun t ht hw => ⟨⟨(), rfl, trivial, ?_⟩, hS.F ht⟩) hS.2.2 hdg hlocks)
  show g_W D cl A z t t.heap
  rw [ht]
  exact hW.moved hw.alike
theorem g_reta {v : Option Nat} {rt : FieldType} (hexec : p.tables.exec = Jvm.exec) (hb : c.code = cc) (hr : meth.sig.returnType = some rt) (hrt : (∃ n, rt = .object n) ∨ ∃ t, rt = .array t) (hlocks : meth.locks = false) (hW : g_W D cl A z s H) (hS : va_S A s.heap H locs) (h1 : cells ≤ mc) (h2 : slots ≤ ms) (hdg : decode cc pc = .ok (.areturn, 1)) : W p l e R s m args below meth c H locs cells slots (MQ below (g_Qq D cl A v z) args s mc ms A) (F0 m pc ls [va_rf v]) := by
  refine W.widen h1 h2 (W.aret hexec hb hr hrt (va_rf_or v) (fun t ht hw => ⟨⟨v, (), rfl, rfl, ?_⟩, hS.F ht⟩) hS.2.2 hdg hlocks)
  show g_W D cl A z t t.heap
  rw [ht]
  exact hW.moved hw.alike
/-- references that may be null, on the stack and in the locals -/
theorem g_cat (r : Option Nat) : (va_rf r).category = 1 := by cases r <;> rfl
theorem g_aload_n (hexec : p.tables.exec = Jvm.exec) (hb : c.code = cc) {k : Fin 4} {i : Nat} {r : Option Nat} (hdg : decode cc pc = .ok (.aload_n k, 1)) (hi : (k : Nat) = i) (hl : ls[i]? = some (.val (va_rf r)))
    (kk : W p l e R s m args below meth c H locs cells slots Q (F0 m (pc + 1) ls (va_rf r :: rest))) : W p l e R s m args below meth c H locs cells slots Q (F0 m pc ls rest) := by
  cases r with
  | none => exact lv_aload_nN hexec hb hdg hi hl kk
  | some x => exact lv_aload_n hexec hb hdg hi hl kk
theorem g_aload (hexec : p.tables.exec = Jvm.exec) (hb : c.code = cc) {i : Nat} {r : Option Nat} (hdg : decode cc pc = .ok (.aload i, 2)) (hl : ls[i]? = some (.val (va_rf r)))
    (kk : W p l e R s m args below meth c H locs cells slots Q (F0 m (pc + 2) ls (va_rf r :: rest))) : W p l e R s m args below meth c H locs cells slots Q (F0 m pc ls rest) := by
  cases r with
  | none => exact lv_aloadN hexec hb hdg hl kk
  | some x => exact lv_aload hexec hb hdg hl kk
theorem g_astore_n (hexec : p.tables.exec = Jvm.exec) (hb : c.code = cc) {k : Fin 4} {i nL : Nat} {r : Option Nat} {lv lv' : List (Nat × Value)} (hdg : decode cc pc = .ok (.astore_n k, 1)) (hi : (k : Nat) = i) (h : lv_has ls nL lv) (hn : i < nL) (hl : (i, va_rf r) :: lv.filter (fun q => !(q.1 == i) && !(q.1 + 1 == i && q.2.category == 2)) = lv')
    (kk : ∀ ls1 : Array Slot, lv_has ls1 nL lv' → W p l e R s m args below meth c H locs cells slots Q (F0 m (pc + 1) ls1 rest)) : W p l e R s m args below meth c H locs cells slots Q (F0 m pc ls (va_rf r :: rest)) := by
  cases r with
  | none => exact lv_astore_nN hexec hb hdg hi h hn hl kk
  | some x => exact lv_astore_n hexec hb hdg hi h hn hl kk
theorem g_astore (hexec : p.tables.exec = Jvm.exec) (hb : c.code = cc) {i nL : Nat} {r : Option Nat} {lv lv' : List (Nat × Value)} (hdg : decode cc pc = .ok (.astore i, 2)) (h : lv_has ls nL lv) (hn : i < nL) (hl : (i, va_rf r) :: lv.filter (fun q => !(q.1 == i) && !(q.1 + 1 == i && q.2.category == 2)) = lv')
    (kk : ∀ ls1 : Array Slot, lv_has ls1 nL lv' → W p l e R s m args below meth c H locs cells slots Q (F0 m (pc + 2) ls1 rest)) : W p l e R s m args below meth c H locs cells slots Q (F0 m pc ls (va_rf r :: rest)) := by
  cases r with
  | none => exact lv_astoreN hexec hb hdg h hn hl kk
  | some x => exact lv_astore hexec hb hdg h hn hl kk
/-- a weaker list of locals, by membership -/
theorem g_lv {lv lv' : List (Nat × Value)} (h : lv_has ls nL lv) (hs : ∀ q ∈ lv', q ∈ lv) : lv_has ls nL lv' := ⟨h.1, h.2.1, fun q hq => h.2.2 q (hs q hq)⟩
end GC
end
section
/-! NAMES, by wip/tools/make.py out of JAVAP.txt and tables_1 -/
def gW : List Cond := lw_tbl.filter goodWord
def gNN : List Cond := lw_tbl.filter g_isN
theorem kw_t {i : Nat} {w : Cond} (h : tables_1[i]? = some w) (hg : goodWord w = true) : w ∈ gW := List.mem_filter.mpr ⟨List.mem_append_right _ (List.mem_of_getElem? h), hg⟩
theorem kn_t {i : Nat} {w : Cond} (h : tables_1[i]? = some w) (hg : g_isN w = true) : w ∈ gNN := List.mem_filter.mpr ⟨List.mem_append_right _ (List.mem_of_getElem? h), hg⟩
theorem ks_t {i : Nat} {w : Cond} (h : (k2_sels lw_privs)[i]? = some w) (hg : goodWord w = true) : w ∈ gW := List.mem_filter.mpr ⟨List.mem_append_left _ (List.mem_of_getElem? h), hg⟩
theorem gW_good : GoodIn gW gW := fun w h => ⟨h, good_of_word (List.mem_filter.mp h).2⟩
theorem gi_I {y : MethodName} {bytes : ByteArray} {maxL : Nat} {ret : Option FieldType} (h : Cond.code y bytes maxL ret ∈ gW) : GoodIn gW (Cond.code y bytes maxL ret :: gW) := fun w hw => (List.mem_cons.mp hw).elim (fun e => by rw [e]; exact gW_good _ h) (gW_good w)
theorem gi_V {own C : String} {idx : Nat} {y : MethodName} {bytes : ByteArray} {maxL : Nat} {ret : Option FieldType} (h1 : Cond.methodLink own idx y ∈ gW) (h2 : Cond.instanceMethod y ∈ gW) (h3 : Cond.selects C y y ∈ gW) (h4 : Cond.initialized C ∈ gW) (h5 : Cond.code y bytes maxL ret ∈ gW) : GoodIn gW (wsV own idx C y (Cond.code y bytes maxL ret :: gW)) := by
  intro w hw
  unfold wsV at hw
  rcases List.mem_append.mp hw with h | h
  · simp only [List.mem_cons, List.not_mem_nil, or_false] at h
    rcases h with rfl | rfl | rfl | rfl
    · exact gW_good _ h1
    · exact gW_good _ h2
    · exact gW_good _ h3
    · exact gW_good _ h4
  · exact gi_I h5 w h
theorem gi_S {own : String} {idx : Nat} {y : MethodName} {bytes : ByteArray} {maxL : Nat} {ret : Option FieldType} (h1 : Cond.methodLink own idx y ∈ gW) (h2 : Cond.static y ∈ gW) (h4 : Cond.initialized own ∈ gW) (h5 : Cond.code y bytes maxL ret ∈ gW) : GoodIn gW (wsS own idx y (Cond.code y bytes maxL ret :: gW)) := by
  intro w hw
  unfold wsS at hw
  rcases List.mem_append.mp hw with h | h
  · simp only [List.mem_cons, List.not_mem_nil, or_false] at h
    rcases h with rfl | rfl | rfl
    · exact gW_good _ h1
    · exact gW_good _ h2
    · exact gW_good _ h4
  · exact gi_I h5 w h
def T_Text : u_T := fun k => match k with
  | 0 => ("SecretRows$Text", "row", "[C", true)
  | _ => ("SecretRows$Text", "length", "I", false)
def ty_Text : Nat → FieldType := fun k => match k with
  | 0 => .array .char
  | _ => .int
theorem nm_Text : ∀ a, a < 2 → ∀ b, b < 2 → a ≠ b → (T_Text a).2.1 ≠ (T_Text b).2.1 := by decide +kernel
theorem tyok_Text : ∀ k, k < 2 → parseFieldDescriptor (T_Text k).2.2.1 = some (ty_Text k) := by decide +kernel
def T_Value : u_T := fun k => match k with
  | 0 => ("SecretRows$Value", "number", "I", true)
  | 1 => ("SecretRows$Value", "text", "LSecretRows$Text;", true)
  | 2 => ("SecretRows$Value", "fromTheEnd", "LSecretRows$Text;", true)
  | _ => ("SecretRows$Value", "byCodes", "LSecretRows$Text;", true)
def ty_Value : Nat → FieldType := fun k => match k with
  | 0 => .int
  | 1 => .object "SecretRows$Text"
  | 2 => .object "SecretRows$Text"
  | _ => .object "SecretRows$Text"
theorem nm_Value : ∀ a, a < 4 → ∀ b, b < 4 → a ≠ b → (T_Value a).2.1 ≠ (T_Value b).2.1 := by decide +kernel
theorem tyok_Value : ∀ k, k < 4 → parseFieldDescriptor (T_Value k).2.2.1 = some (ty_Value k) := by decide +kernel
def T_Secret : u_T := fun k => match k with
  | 0 => ("SecretRows$Secret", "environments", "I", true)
  | 1 => ("SecretRows$Secret", "branches", "I", true)
  | 2 => ("SecretRows$Secret", "jobs", "I", true)
  | 3 => ("SecretRows$Secret", "value", "LSecretRows$Value;", false)
  | 4 => ("SecretRows$Secret", "old", "LSecretRows$Value;", false)
  | 5 => ("SecretRows$Secret", "oldEnd", "I", false)
  | _ => ("SecretRows$Secret", "revoked", "Z", false)
def ty_Secret : Nat → FieldType := fun k => match k with
  | 0 => .int
  | 1 => .int
  | 2 => .int
  | 3 => .object "SecretRows$Value"
  | 4 => .object "SecretRows$Value"
  | 5 => .int
  | _ => .boolean
theorem nm_Secret : ∀ a, a < 7 → ∀ b, b < 7 → a ≠ b → (T_Secret a).2.1 ≠ (T_Secret b).2.1 := by decide +kernel
theorem tyok_Secret : ∀ k, k < 7 → parseFieldDescriptor (T_Secret k).2.2.1 = some (ty_Secret k) := by decide +kernel
def T_Log : u_T := fun k => match k with
  | 0 => ("SecretRows$Log", "came", "LSecretRows$Text;", true)
  | 1 => ("SecretRows$Log", "told", "LSecretRows$Text;", true)
  | 2 => ("SecretRows$Log", "done", "I", false)
  | 3 => ("SecretRows$Log", "covered", "I", false)
  | _ => ("SecretRows$Log", "closed", "Z", false)
def ty_Log : Nat → FieldType := fun k => match k with
  | 0 => .object "SecretRows$Text"
  | 1 => .object "SecretRows$Text"
  | 2 => .int
  | 3 => .int
  | _ => .boolean
theorem nm_Log : ∀ a, a < 5 → ∀ b, b < 5 → a ≠ b → (T_Log a).2.1 ≠ (T_Log b).2.1 := by decide +kernel
theorem tyok_Log : ∀ k, k < 5 → parseFieldDescriptor (T_Log k).2.2.1 = some (ty_Log k) := by decide +kernel
def T_Step : u_T := fun k => match k with
  | 0 => ("SecretRows$Step", "kept", "[LSecretRows$Value;", true)
  | _ => ("SecretRows$Step", "log", "LSecretRows$Log;", true)
def ty_Step : Nat → FieldType := fun k => match k with
  | 0 => .array (.object "SecretRows$Value")
  | _ => .object "SecretRows$Log"
theorem nm_Step : ∀ a, a < 2 → ∀ b, b < 2 → a ≠ b → (T_Step a).2.1 ≠ (T_Step b).2.1 := by decide +kernel
theorem tyok_Step : ∀ k, k < 2 → parseFieldDescriptor (T_Step k).2.2.1 = some (ty_Step k) := by decide +kernel
def T_Token : u_T := fun k => match k with
  | 0 => ("SecretRows$Token", "secret", "I", true)
  | 1 => ("SecretRows$Token", "value", "LSecretRows$Value;", true)
  | _ => ("SecretRows$Token", "end", "I", true)
def ty_Token : Nat → FieldType := fun k => match k with
  | 0 => .int
  | 1 => .object "SecretRows$Value"
  | _ => .int
theorem nm_Token : ∀ a, a < 3 → ∀ b, b < 3 → a ≠ b → (T_Token a).2.1 ≠ (T_Token b).2.1 := by decide +kernel
theorem tyok_Token : ∀ k, k < 3 → parseFieldDescriptor (T_Token k).2.2.1 = some (ty_Token k) := by decide +kernel
def T_Audit : u_T := fun k => match k with
  | 0 => ("SecretRows$Audit", "cells", "[I", true)
  | _ => ("SecretRows$Audit", "rows", "I", false)
def ty_Audit : Nat → FieldType := fun k => match k with
  | 0 => .array .int
  | _ => .int
theorem nm_Audit : ∀ a, a < 2 → ∀ b, b < 2 → a ≠ b → (T_Audit a).2.1 ≠ (T_Audit b).2.1 := by decide +kernel
theorem tyok_Audit : ∀ k, k < 2 → parseFieldDescriptor (T_Audit k).2.2.1 = some (ty_Audit k) := by decide +kernel
def T_Forms : u_T := fun k => match k with
  | 0 => ("SecretRows$Forms", "texts", "[LSecretRows$Text;", true)
  | 1 => ("SecretRows$Forms", "owners", "[I", true)
  | 2 => ("SecretRows$Forms", "kinds", "[I", true)
  | 3 => ("SecretRows$Forms", "olds", "[I", true)
  | _ => ("SecretRows$Forms", "count", "I", false)
def ty_Forms : Nat → FieldType := fun k => match k with
  | 0 => .array (.object "SecretRows$Text")
  | 1 => .array .int
  | 2 => .array .int
  | 3 => .array .int
  | _ => .int
theorem nm_Forms : ∀ a, a < 5 → ∀ b, b < 5 → a ≠ b → (T_Forms a).2.1 ≠ (T_Forms b).2.1 := by decide +kernel
theorem tyok_Forms : ∀ k, k < 5 → parseFieldDescriptor (T_Forms k).2.2.1 = some (ty_Forms k) := by decide +kernel
def T_Main : u_T := fun k => match k with
  | 0 => ("SecretRows", "secrets", "[LSecretRows$Secret;", true)
  | 1 => ("SecretRows", "steps", "[LSecretRows$Step;", true)
  | 2 => ("SecretRows", "tokens", "[LSecretRows$Token;", true)
  | 3 => ("SecretRows", "readings", "LSecretRows$Audit;", true)
  | 4 => ("SecretRows", "tape", "LSecretRows$Text;", true)
  | 5 => ("SecretRows", "forms", "LSecretRows$Forms;", true)
  | 6 => ("SecretRows", "secretCount", "I", false)
  | 7 => ("SecretRows", "stepCount", "I", false)
  | 8 => ("SecretRows", "tokenCount", "I", false)
  | 9 => ("SecretRows", "valueCount", "I", false)
  | 10 => ("SecretRows", "clock", "I", false)
  | 11 => ("SecretRows", "leakSecret", "I", false)
  | 12 => ("SecretRows", "leakForm", "I", false)
  | _ => ("SecretRows", "leakOld", "I", false)
def ty_Main : Nat → FieldType := fun k => match k with
  | 0 => .array (.object "SecretRows$Secret")
  | 1 => .array (.object "SecretRows$Step")
  | 2 => .array (.object "SecretRows$Token")
  | 3 => .object "SecretRows$Audit"
  | 4 => .object "SecretRows$Text"
  | 5 => .object "SecretRows$Forms"
  | 6 => .int
  | 7 => .int
  | 8 => .int
  | 9 => .int
  | 10 => .int
  | 11 => .int
  | 12 => .int
  | _ => .int
theorem nm_Main : ∀ a, a < 14 → ∀ b, b < 14 → a ≠ b → (T_Main a).2.1 ≠ (T_Main b).2.1 := by decide +kernel
theorem tyok_Main : ∀ k, k < 14 → parseFieldDescriptor (T_Main k).2.2.1 = some (ty_Main k) := by decide +kernel
def T_Ref : u_T := fun k => match k with
  | 0 => ("SecretRowsModel", "code", "I", false)
  | 1 => ("SecretRowsModel", "clock", "I", false)
  | 2 => ("SecretRowsModel", "secrets", "I", false)
  | 3 => ("SecretRowsModel", "valuesMany", "I", false)
  | 4 => ("SecretRowsModel", "steps", "I", false)
  | 5 => ("SecretRowsModel", "tokens", "I", false)
  | 6 => ("SecretRowsModel", "audits", "I", false)
  | 7 => ("SecretRowsModel", "whose", "[I", true)
  | 8 => ("SecretRowsModel", "length", "[I", true)
  | 9 => ("SecretRowsModel", "sign", "[I", true)
  | 10 => ("SecretRowsModel", "environments", "[I", true)
  | 11 => ("SecretRowsModel", "branches", "[I", true)
  | 12 => ("SecretRowsModel", "jobs", "[I", true)
  | 13 => ("SecretRowsModel", "value", "[I", true)
  | 14 => ("SecretRowsModel", "old", "[I", true)
  | 15 => ("SecretRowsModel", "till", "[I", true)
  | 16 => ("SecretRowsModel", "isRevoked", "[Z", true)
  | 17 => ("SecretRowsModel", "tape", "[I", true)
  | 18 => ("SecretRowsModel", "taped", "I", false)
  | 19 => ("SecretRowsModel", "kept", "[I", true)
  | 20 => ("SecretRowsModel", "text", "[I", true)
  | 21 => ("SecretRowsModel", "size", "[I", true)
  | 22 => ("SecretRowsModel", "at", "[I", true)
  | 23 => ("SecretRowsModel", "told", "[I", true)
  | 24 => ("SecretRowsModel", "toldMany", "[I", true)
  | 25 => ("SecretRowsModel", "covered", "[I", true)
  | 26 => ("SecretRowsModel", "isClosed", "[Z", true)
  | 27 => ("SecretRowsModel", "auditStep", "[I", true)
  | 28 => ("SecretRowsModel", "auditSecret", "[I", true)
  | 29 => ("SecretRowsModel", "auditClock", "[I", true)
  | 30 => ("SecretRowsModel", "tokenSecret", "[I", true)
  | 31 => ("SecretRowsModel", "tokenValue", "[I", true)
  | 32 => ("SecretRowsModel", "tokenEnd", "[I", true)
  | 33 => ("SecretRowsModel", "leakSecret", "I", false)
  | 34 => ("SecretRowsModel", "leakForm", "I", false)
  | _ => ("SecretRowsModel", "leakOld", "I", false)
def ty_Ref : Nat → FieldType := fun k => match k with
  | 0 => .int
  | 1 => .int
  | 2 => .int
  | 3 => .int
  | 4 => .int
  | 5 => .int
  | 6 => .int
  | 7 => .array .int
  | 8 => .array .int
  | 9 => .array .int
  | 10 => .array .int
  | 11 => .array .int
  | 12 => .array .int
  | 13 => .array .int
  | 14 => .array .int
  | 15 => .array .int
  | 16 => .array .boolean
  | 17 => .array .int
  | 18 => .int
  | 19 => .array .int
  | 20 => .array .int
  | 21 => .array .int
  | 22 => .array .int
  | 23 => .array .int
  | 24 => .array .int
  | 25 => .array .int
  | 26 => .array .boolean
  | 27 => .array .int
  | 28 => .array .int
  | 29 => .array .int
  | 30 => .array .int
  | 31 => .array .int
  | 32 => .array .int
  | 33 => .int
  | 34 => .int
  | _ => .int
theorem nm_Ref : ∀ a, a < 36 → ∀ b, b < 36 → a ≠ b → (T_Ref a).2.1 ≠ (T_Ref b).2.1 := by decide +kernel
theorem tyok_Ref : ∀ k, k < 36 → parseFieldDescriptor (T_Ref k).2.2.1 = some (ty_Ref k) := by decide +kernel
abbrev vwCl : List vw_C := [("SecretRows$Text", T_Text, 2), ("SecretRows$Value", T_Value, 4), ("SecretRows$Secret", T_Secret, 7), ("SecretRows$Log", T_Log, 5), ("SecretRows$Step", T_Step, 2), ("SecretRows$Token", T_Token, 3), ("SecretRows$Audit", T_Audit, 2), ("SecretRows$Forms", T_Forms, 5), ("SecretRows", T_Main, 14), ("SecretRowsModel", T_Ref, 36)]
def gOO : List String := ["SecretRows$Secret", "SecretRows$Step", "SecretRows$Text", "SecretRows$Token", "SecretRows$Value"]
abbrev cAudit_init : ByteArray := prog_2_method_1_code
abbrev yAudit_init : MethodName := ⟨"SecretRows$Audit", "<init>", "()V"⟩
abbrev wsAudit_init : List Cond := .code yAudit_init cAudit_init 1 none :: gW
theorem hdAudit_init : yAudit_init.cls ≠ "java/lang/invoke/MethodHandle" ∧ yAudit_init.cls ≠ "java/lang/invoke/VarHandle" ∧ (parseMethodDescriptor yAudit_init.desc).map (fun d => d.parameters.length) = some 0 := by decide +kernel
abbrev cText_init : ByteArray := prog_7_method_1_code
abbrev yText_init : MethodName := ⟨"SecretRows$Text", "<init>", "(I)V"⟩
abbrev wsText_init : List Cond := .code yText_init cText_init 2 none :: gW
theorem hdText_init : yText_init.cls ≠ "java/lang/invoke/MethodHandle" ∧ yText_init.cls ≠ "java/lang/invoke/VarHandle" ∧ (parseMethodDescriptor yText_init.desc).map (fun d => d.parameters.length) = some 1 := by decide +kernel
abbrev cForms_init : ByteArray := prog_3_method_1_code
abbrev yForms_init : MethodName := ⟨"SecretRows$Forms", "<init>", "()V"⟩
abbrev wsForms_init : List Cond := .code yForms_init cForms_init 1 none :: gW
theorem hdForms_init : yForms_init.cls ≠ "java/lang/invoke/MethodHandle" ∧ yForms_init.cls ≠ "java/lang/invoke/VarHandle" ∧ (parseMethodDescriptor yForms_init.desc).map (fun d => d.parameters.length) = some 0 := by decide +kernel
abbrev cMain_init : ByteArray := prog_1_method_1_code
abbrev yMain_init : MethodName := ⟨"SecretRows", "<init>", "()V"⟩
abbrev wsMain_init : List Cond := .code yMain_init cMain_init 1 none :: gW
theorem hdMain_init : yMain_init.cls ≠ "java/lang/invoke/MethodHandle" ∧ yMain_init.cls ≠ "java/lang/invoke/VarHandle" ∧ (parseMethodDescriptor yMain_init.desc).map (fun d => d.parameters.length) = some 0 := by decide +kernel
abbrev cSecret_init : ByteArray := prog_5_method_1_code
abbrev ySecret_init : MethodName := ⟨"SecretRows$Secret", "<init>", "(III)V"⟩
abbrev wsSecret_init : List Cond := .code ySecret_init cSecret_init 4 none :: gW
theorem hdSecret_init : ySecret_init.cls ≠ "java/lang/invoke/MethodHandle" ∧ ySecret_init.cls ≠ "java/lang/invoke/VarHandle" ∧ (parseMethodDescriptor ySecret_init.desc).map (fun d => d.parameters.length) = some 3 := by decide +kernel
abbrev cMain_secret : ByteArray := prog_1_method_2_code
abbrev yMain_secret : MethodName := ⟨"SecretRows", "secret", "(III)I"⟩
abbrev wsMain_secret : List Cond := .code yMain_secret cMain_secret 4 (some .int) :: gW
theorem hdMain_secret : yMain_secret.cls ≠ "java/lang/invoke/MethodHandle" ∧ yMain_secret.cls ≠ "java/lang/invoke/VarHandle" ∧ (parseMethodDescriptor yMain_secret.desc).map (fun d => d.parameters.length) = some 3 := by decide +kernel
abbrev cText_add : ByteArray := prog_7_method_4_code
abbrev yText_add : MethodName := ⟨"SecretRows$Text", "add", "(I)Z"⟩
abbrev wsText_add : List Cond := .code yText_add cText_add 2 (some .boolean) :: gW
theorem hdText_add : yText_add.cls ≠ "java/lang/invoke/MethodHandle" ∧ yText_add.cls ≠ "java/lang/invoke/VarHandle" ∧ (parseMethodDescriptor yText_add.desc).map (fun d => d.parameters.length) = some 1 := by decide +kernel
abbrev cMain_type : ByteArray := prog_1_method_3_code
abbrev yMain_type : MethodName := ⟨"SecretRows", "type", "(C)Z"⟩
abbrev wsMain_type : List Cond := .code yMain_type cMain_type 2 (some .boolean) :: gW
theorem hdMain_type : yMain_type.cls ≠ "java/lang/invoke/MethodHandle" ∧ yMain_type.cls ≠ "java/lang/invoke/VarHandle" ∧ (parseMethodDescriptor yMain_type.desc).map (fun d => d.parameters.length) = some 1 := by decide +kernel
abbrev cMain_findSecret : ByteArray := prog_1_method_20_code
abbrev yMain_findSecret : MethodName := ⟨"SecretRows", "findSecret", "(I)LSecretRows$Secret;"⟩
abbrev wsMain_findSecret : List Cond := .code yMain_findSecret cMain_findSecret 2 (some (.object "SecretRows$Secret")) :: gW
theorem hdMain_findSecret : yMain_findSecret.cls ≠ "java/lang/invoke/MethodHandle" ∧ yMain_findSecret.cls ≠ "java/lang/invoke/VarHandle" ∧ (parseMethodDescriptor yMain_findSecret.desc).map (fun d => d.parameters.length) = some 1 := by decide +kernel
abbrev cText_length : ByteArray := prog_7_method_2_code
abbrev yText_length : MethodName := ⟨"SecretRows$Text", "length", "()I"⟩
abbrev wsText_length : List Cond := .code yText_length cText_length 1 (some .int) :: gW
theorem hdText_length : yText_length.cls ≠ "java/lang/invoke/MethodHandle" ∧ yText_length.cls ≠ "java/lang/invoke/VarHandle" ∧ (parseMethodDescriptor yText_length.desc).map (fun d => d.parameters.length) = some 0 := by decide +kernel
abbrev cText_at : ByteArray := prog_7_method_3_code
abbrev yText_at : MethodName := ⟨"SecretRows$Text", "at", "(I)I"⟩
abbrev wsText_at : List Cond := .code yText_at cText_at 2 (some .int) :: gW
theorem hdText_at : yText_at.cls ≠ "java/lang/invoke/MethodHandle" ∧ yText_at.cls ≠ "java/lang/invoke/VarHandle" ∧ (parseMethodDescriptor yText_at.desc).map (fun d => d.parameters.length) = some 1 := by decide +kernel
abbrev cText_has : ByteArray := prog_7_method_7_code
abbrev yText_has : MethodName := ⟨"SecretRows$Text", "has", "(C)Z"⟩
abbrev wsText_has : List Cond := .code yText_has cText_has 3 (some .boolean) :: gW
theorem hdText_has : yText_has.cls ≠ "java/lang/invoke/MethodHandle" ∧ yText_has.cls ≠ "java/lang/invoke/VarHandle" ∧ (parseMethodDescriptor yText_has.desc).map (fun d => d.parameters.length) = some 1 := by decide +kernel
abbrev cMain_tapeCanBeValue : ByteArray := prog_1_method_25_code
abbrev yMain_tapeCanBeValue : MethodName := ⟨"SecretRows", "tapeCanBeValue", "()Z"⟩
abbrev wsMain_tapeCanBeValue : List Cond := .code yMain_tapeCanBeValue cMain_tapeCanBeValue 1 (some .boolean) :: gW
theorem hdMain_tapeCanBeValue : yMain_tapeCanBeValue.cls ≠ "java/lang/invoke/MethodHandle" ∧ yMain_tapeCanBeValue.cls ≠ "java/lang/invoke/VarHandle" ∧ (parseMethodDescriptor yMain_tapeCanBeValue.desc).map (fun d => d.parameters.length) = some 0 := by decide +kernel
abbrev cText_agrees : ByteArray := prog_7_method_9_code
abbrev yText_agrees : MethodName := ⟨"SecretRows$Text", "agrees", "(LSecretRows$Text;I)Z"⟩
abbrev wsText_agrees : List Cond := .code yText_agrees cText_agrees 5 (some .boolean) :: gW
theorem hdText_agrees : yText_agrees.cls ≠ "java/lang/invoke/MethodHandle" ∧ yText_agrees.cls ≠ "java/lang/invoke/VarHandle" ∧ (parseMethodDescriptor yText_agrees.desc).map (fun d => d.parameters.length) = some 2 := by decide +kernel
abbrev cText_isLike : ByteArray := prog_7_method_8_code
abbrev yText_isLike : MethodName := ⟨"SecretRows$Text", "isLike", "(LSecretRows$Text;)Z"⟩
abbrev wsText_isLike : List Cond := .code yText_isLike cText_isLike 2 (some .boolean) :: gW
theorem hdText_isLike : yText_isLike.cls ≠ "java/lang/invoke/MethodHandle" ∧ yText_isLike.cls ≠ "java/lang/invoke/VarHandle" ∧ (parseMethodDescriptor yText_isLike.desc).map (fun d => d.parameters.length) = some 1 := by decide +kernel
abbrev cSecret_has : ByteArray := prog_5_method_4_code
abbrev ySecret_has : MethodName := ⟨"SecretRows$Secret", "has", "(LSecretRows$Text;)Z"⟩
abbrev wsSecret_has : List Cond := .code ySecret_has cSecret_has 2 (some .boolean) :: gW
theorem hdSecret_has : ySecret_has.cls ≠ "java/lang/invoke/MethodHandle" ∧ ySecret_has.cls ≠ "java/lang/invoke/VarHandle" ∧ (parseMethodDescriptor ySecret_has.desc).map (fun d => d.parameters.length) = some 1 := by decide +kernel
abbrev cMain_tapeIsHad : ByteArray := prog_1_method_26_code
abbrev yMain_tapeIsHad : MethodName := ⟨"SecretRows", "tapeIsHad", "()Z"⟩
abbrev wsMain_tapeIsHad : List Cond := .code yMain_tapeIsHad cMain_tapeIsHad 3 (some .boolean) :: gW
theorem hdMain_tapeIsHad : yMain_tapeIsHad.cls ≠ "java/lang/invoke/MethodHandle" ∧ yMain_tapeIsHad.cls ≠ "java/lang/invoke/VarHandle" ∧ (parseMethodDescriptor yMain_tapeIsHad.desc).map (fun d => d.parameters.length) = some 0 := by decide +kernel
abbrev cText_addAll : ByteArray := prog_7_method_5_code
abbrev yText_addAll : MethodName := ⟨"SecretRows$Text", "addAll", "(LSecretRows$Text;)V"⟩
abbrev wsText_addAll : List Cond := .code yText_addAll cText_addAll 3 none :: gW
theorem hdText_addAll : yText_addAll.cls ≠ "java/lang/invoke/MethodHandle" ∧ yText_addAll.cls ≠ "java/lang/invoke/VarHandle" ∧ (parseMethodDescriptor yText_addAll.desc).map (fun d => d.parameters.length) = some 1 := by decide +kernel
abbrev cValue_turned : ByteArray := prog_9_method_2_code
abbrev yValue_turned : MethodName := ⟨"SecretRows$Value", "turned", "(LSecretRows$Text;)LSecretRows$Text;"⟩
abbrev wsValue_turned : List Cond := .code yValue_turned cValue_turned 3 (some (.object "SecretRows$Text")) :: gW
theorem hdValue_turned : yValue_turned.cls ≠ "java/lang/invoke/MethodHandle" ∧ yValue_turned.cls ≠ "java/lang/invoke/VarHandle" ∧ (parseMethodDescriptor yValue_turned.desc).map (fun d => d.parameters.length) = some 1 := by decide +kernel
abbrev cValue_digit : ByteArray := prog_9_method_4_code
abbrev yValue_digit : MethodName := ⟨"SecretRows$Value", "digit", "(I)I"⟩
abbrev wsValue_digit : List Cond := .code yValue_digit cValue_digit 1 (some .int) :: gW
theorem hdValue_digit : yValue_digit.cls ≠ "java/lang/invoke/MethodHandle" ∧ yValue_digit.cls ≠ "java/lang/invoke/VarHandle" ∧ (parseMethodDescriptor yValue_digit.desc).map (fun d => d.parameters.length) = some 1 := by decide +kernel
abbrev cValue_codesOf : ByteArray := prog_9_method_3_code
abbrev yValue_codesOf : MethodName := ⟨"SecretRows$Value", "codesOf", "(LSecretRows$Text;)LSecretRows$Text;"⟩
abbrev wsValue_codesOf : List Cond := .code yValue_codesOf cValue_codesOf 3 (some (.object "SecretRows$Text")) :: gW
theorem hdValue_codesOf : yValue_codesOf.cls ≠ "java/lang/invoke/MethodHandle" ∧ yValue_codesOf.cls ≠ "java/lang/invoke/VarHandle" ∧ (parseMethodDescriptor yValue_codesOf.desc).map (fun d => d.parameters.length) = some 1 := by decide +kernel
abbrev cValue_init : ByteArray := prog_9_method_1_code
abbrev yValue_init : MethodName := ⟨"SecretRows$Value", "<init>", "(ILSecretRows$Text;)V"⟩
abbrev wsValue_init : List Cond := .code yValue_init cValue_init 3 none :: gW
theorem hdValue_init : yValue_init.cls ≠ "java/lang/invoke/MethodHandle" ∧ yValue_init.cls ≠ "java/lang/invoke/VarHandle" ∧ (parseMethodDescriptor yValue_init.desc).map (fun d => d.parameters.length) = some 2 := by decide +kernel
abbrev cSecret_rotate : ByteArray := prog_5_method_3_code
abbrev ySecret_rotate : MethodName := ⟨"SecretRows$Secret", "rotate", "(LSecretRows$Value;I)V"⟩
abbrev wsSecret_rotate : List Cond := .code ySecret_rotate cSecret_rotate 3 none :: gW
theorem hdSecret_rotate : ySecret_rotate.cls ≠ "java/lang/invoke/MethodHandle" ∧ ySecret_rotate.cls ≠ "java/lang/invoke/VarHandle" ∧ (parseMethodDescriptor ySecret_rotate.desc).map (fun d => d.parameters.length) = some 2 := by decide +kernel
abbrev cMain_setFromTape : ByteArray := prog_1_method_23_code
abbrev yMain_setFromTape : MethodName := ⟨"SecretRows", "setFromTape", "(LSecretRows$Secret;I)I"⟩
abbrev wsMain_setFromTape : List Cond := .code yMain_setFromTape cMain_setFromTape 3 (some .int) :: gW
theorem hdMain_setFromTape : yMain_setFromTape.cls ≠ "java/lang/invoke/MethodHandle" ∧ yMain_setFromTape.cls ≠ "java/lang/invoke/VarHandle" ∧ (parseMethodDescriptor yMain_setFromTape.desc).map (fun d => d.parameters.length) = some 2 := by decide +kernel
abbrev cText_clear : ByteArray := prog_7_method_6_code
abbrev yText_clear : MethodName := ⟨"SecretRows$Text", "clear", "()V"⟩
abbrev wsText_clear : List Cond := .code yText_clear cText_clear 1 none :: gW
theorem hdText_clear : yText_clear.cls ≠ "java/lang/invoke/MethodHandle" ∧ yText_clear.cls ≠ "java/lang/invoke/VarHandle" ∧ (parseMethodDescriptor yText_clear.desc).map (fun d => d.parameters.length) = some 0 := by decide +kernel
abbrev cMain_set : ByteArray := prog_1_method_4_code
abbrev yMain_set : MethodName := ⟨"SecretRows", "set", "(II)I"⟩
abbrev wsMain_set : List Cond := .code yMain_set cMain_set 4 (some .int) :: gW
theorem hdMain_set : yMain_set.cls ≠ "java/lang/invoke/MethodHandle" ∧ yMain_set.cls ≠ "java/lang/invoke/VarHandle" ∧ (parseMethodDescriptor yMain_set.desc).map (fun d => d.parameters.length) = some 2 := by decide +kernel
abbrev cMain_revoke : ByteArray := prog_1_method_5_code
abbrev yMain_revoke : MethodName := ⟨"SecretRows", "revoke", "(I)Z"⟩
abbrev wsMain_revoke : List Cond := .code yMain_revoke cMain_revoke 3 (some .boolean) :: gW
theorem hdMain_revoke : yMain_revoke.cls ≠ "java/lang/invoke/MethodHandle" ∧ yMain_revoke.cls ≠ "java/lang/invoke/VarHandle" ∧ (parseMethodDescriptor yMain_revoke.desc).map (fun d => d.parameters.length) = some 1 := by decide +kernel
abbrev cMain_tick : ByteArray := prog_1_method_6_code
abbrev yMain_tick : MethodName := ⟨"SecretRows", "tick", "(I)I"⟩
abbrev wsMain_tick : List Cond := .code yMain_tick cMain_tick 2 (some .int) :: gW
theorem hdMain_tick : yMain_tick.cls ≠ "java/lang/invoke/MethodHandle" ∧ yMain_tick.cls ≠ "java/lang/invoke/VarHandle" ∧ (parseMethodDescriptor yMain_tick.desc).map (fun d => d.parameters.length) = some 1 := by decide +kernel
abbrev cMain_isBit : ByteArray := prog_1_method_19_code
abbrev yMain_isBit : MethodName := ⟨"SecretRows", "isBit", "(I)Z"⟩
abbrev wsMain_isBit : List Cond := .code yMain_isBit cMain_isBit 1 (some .boolean) :: gW
theorem hdMain_isBit : yMain_isBit.cls ≠ "java/lang/invoke/MethodHandle" ∧ yMain_isBit.cls ≠ "java/lang/invoke/VarHandle" ∧ (parseMethodDescriptor yMain_isBit.desc).map (fun d => d.parameters.length) = some 1 := by decide +kernel
abbrev cLog_init : ByteArray := prog_4_method_1_code
abbrev yLog_init : MethodName := ⟨"SecretRows$Log", "<init>", "()V"⟩
abbrev wsLog_init : List Cond := .code yLog_init cLog_init 1 none :: gW
theorem hdLog_init : yLog_init.cls ≠ "java/lang/invoke/MethodHandle" ∧ yLog_init.cls ≠ "java/lang/invoke/VarHandle" ∧ (parseMethodDescriptor yLog_init.desc).map (fun d => d.parameters.length) = some 0 := by decide +kernel
abbrev cStep_init : ByteArray := prog_6_method_1_code
abbrev yStep_init : MethodName := ⟨"SecretRows$Step", "<init>", "()V"⟩
abbrev wsStep_init : List Cond := .code yStep_init cStep_init 1 none :: gW
theorem hdStep_init : yStep_init.cls ≠ "java/lang/invoke/MethodHandle" ∧ yStep_init.cls ≠ "java/lang/invoke/VarHandle" ∧ (parseMethodDescriptor yStep_init.desc).map (fun d => d.parameters.length) = some 0 := by decide +kernel
abbrev cSecret_isFor : ByteArray := prog_5_method_2_code
abbrev ySecret_isFor : MethodName := ⟨"SecretRows$Secret", "isFor", "(III)Z"⟩
abbrev wsSecret_isFor : List Cond := .code ySecret_isFor cSecret_isFor 4 (some .boolean) :: gW
theorem hdSecret_isFor : ySecret_isFor.cls ≠ "java/lang/invoke/MethodHandle" ∧ ySecret_isFor.cls ≠ "java/lang/invoke/VarHandle" ∧ (parseMethodDescriptor ySecret_isFor.desc).map (fun d => d.parameters.length) = some 3 := by decide +kernel
abbrev cStep_keep : ByteArray := prog_6_method_2_code
abbrev yStep_keep : MethodName := ⟨"SecretRows$Step", "keep", "(ILSecretRows$Value;)V"⟩
abbrev wsStep_keep : List Cond := .code yStep_keep cStep_keep 3 none :: gW
theorem hdStep_keep : yStep_keep.cls ≠ "java/lang/invoke/MethodHandle" ∧ yStep_keep.cls ≠ "java/lang/invoke/VarHandle" ∧ (parseMethodDescriptor yStep_keep.desc).map (fun d => d.parameters.length) = some 2 := by decide +kernel
abbrev cMain_keepSeen : ByteArray := prog_1_method_27_code
abbrev yMain_keepSeen : MethodName := ⟨"SecretRows", "keepSeen", "(LSecretRows$Step;III)V"⟩
abbrev wsMain_keepSeen : List Cond := .code yMain_keepSeen cMain_keepSeen 7 none :: gW
theorem hdMain_keepSeen : yMain_keepSeen.cls ≠ "java/lang/invoke/MethodHandle" ∧ yMain_keepSeen.cls ≠ "java/lang/invoke/VarHandle" ∧ (parseMethodDescriptor yMain_keepSeen.desc).map (fun d => d.parameters.length) = some 4 := by decide +kernel
abbrev cMain_step : ByteArray := prog_1_method_7_code
abbrev yMain_step : MethodName := ⟨"SecretRows", "step", "(IIIZ)I"⟩
abbrev wsMain_step : List Cond := .code yMain_step cMain_step 6 (some .int) :: gW
theorem hdMain_step : yMain_step.cls ≠ "java/lang/invoke/MethodHandle" ∧ yMain_step.cls ≠ "java/lang/invoke/VarHandle" ∧ (parseMethodDescriptor yMain_step.desc).map (fun d => d.parameters.length) = some 4 := by decide +kernel
abbrev cMain_findStep : ByteArray := prog_1_method_21_code
abbrev yMain_findStep : MethodName := ⟨"SecretRows", "findStep", "(I)LSecretRows$Step;"⟩
abbrev wsMain_findStep : List Cond := .code yMain_findStep cMain_findStep 2 (some (.object "SecretRows$Step")) :: gW
theorem hdMain_findStep : yMain_findStep.cls ≠ "java/lang/invoke/MethodHandle" ∧ yMain_findStep.cls ≠ "java/lang/invoke/VarHandle" ∧ (parseMethodDescriptor yMain_findStep.desc).map (fun d => d.parameters.length) = some 1 := by decide +kernel
abbrev cStep_seenAt : ByteArray := prog_6_method_4_code
abbrev yStep_seenAt : MethodName := ⟨"SecretRows$Step", "seenAt", "(I)I"⟩
abbrev wsStep_seenAt : List Cond := .code yStep_seenAt cStep_seenAt 4 (some .int) :: gW
theorem hdStep_seenAt : yStep_seenAt.cls ≠ "java/lang/invoke/MethodHandle" ∧ yStep_seenAt.cls ≠ "java/lang/invoke/VarHandle" ∧ (parseMethodDescriptor yStep_seenAt.desc).map (fun d => d.parameters.length) = some 1 := by decide +kernel
abbrev cMain_sees : ByteArray := prog_1_method_8_code
abbrev yMain_sees : MethodName := ⟨"SecretRows", "sees", "(II)I"⟩
abbrev wsMain_sees : List Cond := .code yMain_sees cMain_sees 4 (some .int) :: gW
theorem hdMain_sees : yMain_sees.cls ≠ "java/lang/invoke/MethodHandle" ∧ yMain_sees.cls ≠ "java/lang/invoke/VarHandle" ∧ (parseMethodDescriptor yMain_sees.desc).map (fun d => d.parameters.length) = some 2 := by decide +kernel
abbrev cStep_keptOf : ByteArray := prog_6_method_3_code
abbrev yStep_keptOf : MethodName := ⟨"SecretRows$Step", "keptOf", "(I)LSecretRows$Value;"⟩
abbrev wsStep_keptOf : List Cond := .code yStep_keptOf cStep_keptOf 2 (some (.object "SecretRows$Value")) :: gW
theorem hdStep_keptOf : yStep_keptOf.cls ≠ "java/lang/invoke/MethodHandle" ∧ yStep_keptOf.cls ≠ "java/lang/invoke/VarHandle" ∧ (parseMethodDescriptor yStep_keptOf.desc).map (fun d => d.parameters.length) = some 1 := by decide +kernel
abbrev cMain_keptValue : ByteArray := prog_1_method_22_code
abbrev yMain_keptValue : MethodName := ⟨"SecretRows", "keptValue", "(II)LSecretRows$Value;"⟩
abbrev wsMain_keptValue : List Cond := .code yMain_keptValue cMain_keptValue 4 (some (.object "SecretRows$Value")) :: gW
theorem hdMain_keptValue : yMain_keptValue.cls ≠ "java/lang/invoke/MethodHandle" ∧ yMain_keptValue.cls ≠ "java/lang/invoke/VarHandle" ∧ (parseMethodDescriptor yMain_keptValue.desc).map (fun d => d.parameters.length) = some 2 := by decide +kernel
abbrev cAudit_tell : ByteArray := prog_2_method_2_code
abbrev yAudit_tell : MethodName := ⟨"SecretRows$Audit", "tell", "(III)V"⟩
abbrev wsAudit_tell : List Cond := .code yAudit_tell cAudit_tell 5 none :: gW
theorem hdAudit_tell : yAudit_tell.cls ≠ "java/lang/invoke/MethodHandle" ∧ yAudit_tell.cls ≠ "java/lang/invoke/VarHandle" ∧ (parseMethodDescriptor yAudit_tell.desc).map (fun d => d.parameters.length) = some 3 := by decide +kernel
abbrev cMain_read : ByteArray := prog_1_method_9_code
abbrev yMain_read : MethodName := ⟨"SecretRows", "read", "(III)I"⟩
abbrev wsMain_read : List Cond := .code yMain_read cMain_read 5 (some .int) :: gW
theorem hdMain_read : yMain_read.cls ≠ "java/lang/invoke/MethodHandle" ∧ yMain_read.cls ≠ "java/lang/invoke/VarHandle" ∧ (parseMethodDescriptor yMain_read.desc).map (fun d => d.parameters.length) = some 3 := by decide +kernel
abbrev cAudit_cell : ByteArray := prog_2_method_3_code
abbrev yAudit_cell : MethodName := ⟨"SecretRows$Audit", "cell", "(II)I"⟩
abbrev wsAudit_cell : List Cond := .code yAudit_cell cAudit_cell 4 (some .int) :: gW
theorem hdAudit_cell : yAudit_cell.cls ≠ "java/lang/invoke/MethodHandle" ∧ yAudit_cell.cls ≠ "java/lang/invoke/VarHandle" ∧ (parseMethodDescriptor yAudit_cell.desc).map (fun d => d.parameters.length) = some 2 := by decide +kernel
abbrev cMain_audit : ByteArray := prog_1_method_10_code
abbrev yMain_audit : MethodName := ⟨"SecretRows", "audit", "(II)I"⟩
abbrev wsMain_audit : List Cond := .code yMain_audit cMain_audit 3 (some .int) :: gW
theorem hdMain_audit : yMain_audit.cls ≠ "java/lang/invoke/MethodHandle" ∧ yMain_audit.cls ≠ "java/lang/invoke/VarHandle" ∧ (parseMethodDescriptor yMain_audit.desc).map (fun d => d.parameters.length) = some 2 := by decide +kernel
abbrev cLog_takes : ByteArray := prog_4_method_2_code
abbrev yLog_takes : MethodName := ⟨"SecretRows$Log", "takes", "(I)Z"⟩
abbrev wsLog_takes : List Cond := .code yLog_takes cLog_takes 2 (some .boolean) :: gW
theorem hdLog_takes : yLog_takes.cls ≠ "java/lang/invoke/MethodHandle" ∧ yLog_takes.cls ≠ "java/lang/invoke/VarHandle" ∧ (parseMethodDescriptor yLog_takes.desc).map (fun d => d.parameters.length) = some 1 := by decide +kernel
abbrev cForms_clear : ByteArray := prog_3_method_2_code
abbrev yForms_clear : MethodName := ⟨"SecretRows$Forms", "clear", "()V"⟩
abbrev wsForms_clear : List Cond := .code yForms_clear cForms_clear 1 none :: gW
theorem hdForms_clear : yForms_clear.cls ≠ "java/lang/invoke/MethodHandle" ∧ yForms_clear.cls ≠ "java/lang/invoke/VarHandle" ∧ (parseMethodDescriptor yForms_clear.desc).map (fun d => d.parameters.length) = some 0 := by decide +kernel
abbrev cForms_add : ByteArray := prog_3_method_4_code
abbrev yForms_add : MethodName := ⟨"SecretRows$Forms", "add", "(LSecretRows$Text;III)V"⟩
abbrev wsForms_add : List Cond := .code yForms_add cForms_add 5 none :: gW
theorem hdForms_add : yForms_add.cls ≠ "java/lang/invoke/MethodHandle" ∧ yForms_add.cls ≠ "java/lang/invoke/VarHandle" ∧ (parseMethodDescriptor yForms_add.desc).map (fun d => d.parameters.length) = some 4 := by decide +kernel
abbrev cForms_addAll : ByteArray := prog_3_method_3_code
abbrev yForms_addAll : MethodName := ⟨"SecretRows$Forms", "addAll", "(ILSecretRows$Value;I)V"⟩
abbrev wsForms_addAll : List Cond := .code yForms_addAll cForms_addAll 4 none :: gW
theorem hdForms_addAll : yForms_addAll.cls ≠ "java/lang/invoke/MethodHandle" ∧ yForms_addAll.cls ≠ "java/lang/invoke/VarHandle" ∧ (parseMethodDescriptor yForms_addAll.desc).map (fun d => d.parameters.length) = some 3 := by decide +kernel
abbrev cMain_gatherForms : ByteArray := prog_1_method_28_code
abbrev yMain_gatherForms : MethodName := ⟨"SecretRows", "gatherForms", "()V"⟩
abbrev wsMain_gatherForms : List Cond := .code yMain_gatherForms cMain_gatherForms 3 none :: gW
theorem hdMain_gatherForms : yMain_gatherForms.cls ≠ "java/lang/invoke/MethodHandle" ∧ yMain_gatherForms.cls ≠ "java/lang/invoke/VarHandle" ∧ (parseMethodDescriptor yMain_gatherForms.desc).map (fun d => d.parameters.length) = some 0 := by decide +kernel
abbrev cForms_isThere : ByteArray := prog_3_method_11_code
abbrev yForms_isThere : MethodName := ⟨"SecretRows$Forms", "isThere", "(I)Z"⟩
abbrev wsForms_isThere : List Cond := .code yForms_isThere cForms_isThere 2 (some .boolean) :: gW
theorem hdForms_isThere : yForms_isThere.cls ≠ "java/lang/invoke/MethodHandle" ∧ yForms_isThere.cls ≠ "java/lang/invoke/VarHandle" ∧ (parseMethodDescriptor yForms_isThere.desc).map (fun d => d.parameters.length) = some 1 := by decide +kernel
abbrev cForms_textOf : ByteArray := prog_3_method_12_code
abbrev yForms_textOf : MethodName := ⟨"SecretRows$Forms", "textOf", "(I)LSecretRows$Text;"⟩
abbrev wsForms_textOf : List Cond := .code yForms_textOf cForms_textOf 2 (some (.object "SecretRows$Text")) :: gW
theorem hdForms_textOf : yForms_textOf.cls ≠ "java/lang/invoke/MethodHandle" ∧ yForms_textOf.cls ≠ "java/lang/invoke/VarHandle" ∧ (parseMethodDescriptor yForms_textOf.desc).map (fun d => d.parameters.length) = some 1 := by decide +kernel
abbrev cForms_mayCome : ByteArray := prog_3_method_10_code
abbrev yForms_mayCome : MethodName := ⟨"SecretRows$Forms", "mayCome", "(LSecretRows$Text;I)Z"⟩
abbrev wsForms_mayCome : List Cond := .code yForms_mayCome cForms_mayCome 6 (some .boolean) :: gW
theorem hdForms_mayCome : yForms_mayCome.cls ≠ "java/lang/invoke/MethodHandle" ∧ yForms_mayCome.cls ≠ "java/lang/invoke/VarHandle" ∧ (parseMethodDescriptor yForms_mayCome.desc).map (fun d => d.parameters.length) = some 2 := by decide +kernel
abbrev cForms_longestWhole : ByteArray := prog_3_method_9_code
abbrev yForms_longestWhole : MethodName := ⟨"SecretRows$Forms", "longestWhole", "(LSecretRows$Text;I)I"⟩
abbrev wsForms_longestWhole : List Cond := .code yForms_longestWhole cForms_longestWhole 8 (some .int) :: gW
theorem hdForms_longestWhole : yForms_longestWhole.cls ≠ "java/lang/invoke/MethodHandle" ∧ yForms_longestWhole.cls ≠ "java/lang/invoke/VarHandle" ∧ (parseMethodDescriptor yForms_longestWhole.desc).map (fun d => d.parameters.length) = some 2 := by decide +kernel
abbrev cLog_tellStars : ByteArray := prog_4_method_7_code
abbrev yLog_tellStars : MethodName := ⟨"SecretRows$Log", "tellStars", "()V"⟩
abbrev wsLog_tellStars : List Cond := .code yLog_tellStars cLog_tellStars 2 none :: gW
theorem hdLog_tellStars : yLog_tellStars.cls ≠ "java/lang/invoke/MethodHandle" ∧ yLog_tellStars.cls ≠ "java/lang/invoke/VarHandle" ∧ (parseMethodDescriptor yLog_tellStars.desc).map (fun d => d.parameters.length) = some 0 := by decide +kernel
abbrev cForms_lengthOf : ByteArray := prog_3_method_8_code
abbrev yForms_lengthOf : MethodName := ⟨"SecretRows$Forms", "lengthOf", "(I)I"⟩
abbrev wsForms_lengthOf : List Cond := .code yForms_lengthOf cForms_lengthOf 3 (some .int) :: gW
theorem hdForms_lengthOf : yForms_lengthOf.cls ≠ "java/lang/invoke/MethodHandle" ∧ yForms_lengthOf.cls ≠ "java/lang/invoke/VarHandle" ∧ (parseMethodDescriptor yForms_lengthOf.desc).map (fun d => d.parameters.length) = some 1 := by decide +kernel
abbrev cLog_cover : ByteArray := prog_4_method_6_code
abbrev yLog_cover : MethodName := ⟨"SecretRows$Log", "cover", "(LSecretRows$Forms;Z)V"⟩
abbrev wsLog_cover : List Cond := .code yLog_cover cLog_cover 5 none :: gW
theorem hdLog_cover : yLog_cover.cls ≠ "java/lang/invoke/MethodHandle" ∧ yLog_cover.cls ≠ "java/lang/invoke/VarHandle" ∧ (parseMethodDescriptor yLog_cover.desc).map (fun d => d.parameters.length) = some 2 := by decide +kernel
abbrev cLog_come : ByteArray := prog_4_method_4_code
abbrev yLog_come : MethodName := ⟨"SecretRows$Log", "come", "(LSecretRows$Text;LSecretRows$Forms;)V"⟩
abbrev wsLog_come : List Cond := .code yLog_come cLog_come 3 none :: gW
theorem hdLog_come : yLog_come.cls ≠ "java/lang/invoke/MethodHandle" ∧ yLog_come.cls ≠ "java/lang/invoke/VarHandle" ∧ (parseMethodDescriptor yLog_come.desc).map (fun d => d.parameters.length) = some 2 := by decide +kernel
abbrev cMain_logFromTape : ByteArray := prog_1_method_24_code
abbrev yMain_logFromTape : MethodName := ⟨"SecretRows", "logFromTape", "(LSecretRows$Step;)I"⟩
abbrev wsMain_logFromTape : List Cond := .code yMain_logFromTape cMain_logFromTape 2 (some .int) :: gW
theorem hdMain_logFromTape : yMain_logFromTape.cls ≠ "java/lang/invoke/MethodHandle" ∧ yMain_logFromTape.cls ≠ "java/lang/invoke/VarHandle" ∧ (parseMethodDescriptor yMain_logFromTape.desc).map (fun d => d.parameters.length) = some 1 := by decide +kernel
abbrev cMain_log : ByteArray := prog_1_method_11_code
abbrev yMain_log : MethodName := ⟨"SecretRows", "log", "(I)I"⟩
abbrev wsMain_log : List Cond := .code yMain_log cMain_log 3 (some .int) :: gW
theorem hdMain_log : yMain_log.cls ≠ "java/lang/invoke/MethodHandle" ∧ yMain_log.cls ≠ "java/lang/invoke/VarHandle" ∧ (parseMethodDescriptor yMain_log.desc).map (fun d => d.parameters.length) = some 1 := by decide +kernel
abbrev cLog_end : ByteArray := prog_4_method_5_code
abbrev yLog_end : MethodName := ⟨"SecretRows$Log", "end", "(LSecretRows$Forms;)V"⟩
abbrev wsLog_end : List Cond := .code yLog_end cLog_end 2 none :: gW
theorem hdLog_end : yLog_end.cls ≠ "java/lang/invoke/MethodHandle" ∧ yLog_end.cls ≠ "java/lang/invoke/VarHandle" ∧ (parseMethodDescriptor yLog_end.desc).map (fun d => d.parameters.length) = some 1 := by decide +kernel
abbrev cMain_close : ByteArray := prog_1_method_12_code
abbrev yMain_close : MethodName := ⟨"SecretRows", "close", "(I)I"⟩
abbrev wsMain_close : List Cond := .code yMain_close cMain_close 3 (some .int) :: gW
theorem hdMain_close : yMain_close.cls ≠ "java/lang/invoke/MethodHandle" ∧ yMain_close.cls ≠ "java/lang/invoke/VarHandle" ∧ (parseMethodDescriptor yMain_close.desc).map (fun d => d.parameters.length) = some 1 := by decide +kernel
abbrev cMain_told : ByteArray := prog_1_method_13_code
abbrev yMain_told : MethodName := ⟨"SecretRows", "told", "(II)I"⟩
abbrev wsMain_told : List Cond := .code yMain_told cMain_told 4 (some .int) :: gW
theorem hdMain_told : yMain_told.cls ≠ "java/lang/invoke/MethodHandle" ∧ yMain_told.cls ≠ "java/lang/invoke/VarHandle" ∧ (parseMethodDescriptor yMain_told.desc).map (fun d => d.parameters.length) = some 2 := by decide +kernel
abbrev cLog_heldCount : ByteArray := prog_4_method_3_code
abbrev yLog_heldCount : MethodName := ⟨"SecretRows$Log", "heldCount", "()I"⟩
abbrev wsLog_heldCount : List Cond := .code yLog_heldCount cLog_heldCount 1 (some .int) :: gW
theorem hdLog_heldCount : yLog_heldCount.cls ≠ "java/lang/invoke/MethodHandle" ∧ yLog_heldCount.cls ≠ "java/lang/invoke/VarHandle" ∧ (parseMethodDescriptor yLog_heldCount.desc).map (fun d => d.parameters.length) = some 0 := by decide +kernel
abbrev cMain_about : ByteArray := prog_1_method_14_code
abbrev yMain_about : MethodName := ⟨"SecretRows", "about", "(II)I"⟩
abbrev wsMain_about : List Cond := .code yMain_about cMain_about 4 (some .int) :: gW
theorem hdMain_about : yMain_about.cls ≠ "java/lang/invoke/MethodHandle" ∧ yMain_about.cls ≠ "java/lang/invoke/VarHandle" ∧ (parseMethodDescriptor yMain_about.desc).map (fun d => d.parameters.length) = some 2 := by decide +kernel
abbrev cToken_init : ByteArray := prog_8_method_1_code
abbrev yToken_init : MethodName := ⟨"SecretRows$Token", "<init>", "(ILSecretRows$Value;I)V"⟩
abbrev wsToken_init : List Cond := .code yToken_init cToken_init 4 none :: gW
theorem hdToken_init : yToken_init.cls ≠ "java/lang/invoke/MethodHandle" ∧ yToken_init.cls ≠ "java/lang/invoke/VarHandle" ∧ (parseMethodDescriptor yToken_init.desc).map (fun d => d.parameters.length) = some 3 := by decide +kernel
abbrev cMain_token : ByteArray := prog_1_method_15_code
abbrev yMain_token : MethodName := ⟨"SecretRows", "token", "(III)I"⟩
abbrev wsMain_token : List Cond := .code yMain_token cMain_token 5 (some .int) :: gW
theorem hdMain_token : yMain_token.cls ≠ "java/lang/invoke/MethodHandle" ∧ yMain_token.cls ≠ "java/lang/invoke/VarHandle" ∧ (parseMethodDescriptor yMain_token.desc).map (fun d => d.parameters.length) = some 3 := by decide +kernel
abbrev cSecret_stillHas : ByteArray := prog_5_method_5_code
abbrev ySecret_stillHas : MethodName := ⟨"SecretRows$Secret", "stillHas", "(LSecretRows$Value;)Z"⟩
abbrev wsSecret_stillHas : List Cond := .code ySecret_stillHas cSecret_stillHas 2 (some .boolean) :: gW
theorem hdSecret_stillHas : ySecret_stillHas.cls ≠ "java/lang/invoke/MethodHandle" ∧ ySecret_stillHas.cls ≠ "java/lang/invoke/VarHandle" ∧ (parseMethodDescriptor ySecret_stillHas.desc).map (fun d => d.parameters.length) = some 1 := by decide +kernel
abbrev cMain_good : ByteArray := prog_1_method_16_code
abbrev yMain_good : MethodName := ⟨"SecretRows", "good", "(I)Z"⟩
abbrev wsMain_good : List Cond := .code yMain_good cMain_good 4 (some .boolean) :: gW
theorem hdMain_good : yMain_good.cls ≠ "java/lang/invoke/MethodHandle" ∧ yMain_good.cls ≠ "java/lang/invoke/VarHandle" ∧ (parseMethodDescriptor yMain_good.desc).map (fun d => d.parameters.length) = some 1 := by decide +kernel
abbrev cForms_ownerOf : ByteArray := prog_3_method_5_code
abbrev yForms_ownerOf : MethodName := ⟨"SecretRows$Forms", "ownerOf", "(I)I"⟩
abbrev wsForms_ownerOf : List Cond := .code yForms_ownerOf cForms_ownerOf 2 (some .int) :: gW
theorem hdForms_ownerOf : yForms_ownerOf.cls ≠ "java/lang/invoke/MethodHandle" ∧ yForms_ownerOf.cls ≠ "java/lang/invoke/VarHandle" ∧ (parseMethodDescriptor yForms_ownerOf.desc).map (fun d => d.parameters.length) = some 1 := by decide +kernel
abbrev cForms_kindOf : ByteArray := prog_3_method_6_code
abbrev yForms_kindOf : MethodName := ⟨"SecretRows$Forms", "kindOf", "(I)I"⟩
abbrev wsForms_kindOf : List Cond := .code yForms_kindOf cForms_kindOf 2 (some .int) :: gW
theorem hdForms_kindOf : yForms_kindOf.cls ≠ "java/lang/invoke/MethodHandle" ∧ yForms_kindOf.cls ≠ "java/lang/invoke/VarHandle" ∧ (parseMethodDescriptor yForms_kindOf.desc).map (fun d => d.parameters.length) = some 1 := by decide +kernel
abbrev cForms_oldOf : ByteArray := prog_3_method_7_code
abbrev yForms_oldOf : MethodName := ⟨"SecretRows$Forms", "oldOf", "(I)I"⟩
abbrev wsForms_oldOf : List Cond := .code yForms_oldOf cForms_oldOf 2 (some .int) :: gW
theorem hdForms_oldOf : yForms_oldOf.cls ≠ "java/lang/invoke/MethodHandle" ∧ yForms_oldOf.cls ≠ "java/lang/invoke/VarHandle" ∧ (parseMethodDescriptor yForms_oldOf.desc).map (fun d => d.parameters.length) = some 1 := by decide +kernel
abbrev cMain_rememberLeak : ByteArray := prog_1_method_29_code
abbrev yMain_rememberLeak : MethodName := ⟨"SecretRows", "rememberLeak", "(I)V"⟩
abbrev wsMain_rememberLeak : List Cond := .code yMain_rememberLeak cMain_rememberLeak 2 none :: gW
theorem hdMain_rememberLeak : yMain_rememberLeak.cls ≠ "java/lang/invoke/MethodHandle" ∧ yMain_rememberLeak.cls ≠ "java/lang/invoke/VarHandle" ∧ (parseMethodDescriptor yMain_rememberLeak.desc).map (fun d => d.parameters.length) = some 1 := by decide +kernel
abbrev cMain_scan : ByteArray := prog_1_method_17_code
abbrev yMain_scan : MethodName := ⟨"SecretRows", "scan", "()I"⟩
abbrev wsMain_scan : List Cond := .code yMain_scan cMain_scan 4 (some .int) :: gW
theorem hdMain_scan : yMain_scan.cls ≠ "java/lang/invoke/MethodHandle" ∧ yMain_scan.cls ≠ "java/lang/invoke/VarHandle" ∧ (parseMethodDescriptor yMain_scan.desc).map (fun d => d.parameters.length) = some 0 := by decide +kernel
abbrev cMain_leak : ByteArray := prog_1_method_18_code
abbrev yMain_leak : MethodName := ⟨"SecretRows", "leak", "(I)I"⟩
abbrev wsMain_leak : List Cond := .code yMain_leak cMain_leak 2 (some .int) :: gW
theorem hdMain_leak : yMain_leak.cls ≠ "java/lang/invoke/MethodHandle" ∧ yMain_leak.cls ≠ "java/lang/invoke/VarHandle" ∧ (parseMethodDescriptor yMain_leak.desc).map (fun d => d.parameters.length) = some 1 := by decide +kernel
abbrev cRef_init : ByteArray := prog_11_method_1_code
abbrev yRef_init : MethodName := ⟨"SecretRowsModel", "<init>", "()V"⟩
abbrev wsRef_init : List Cond := .code yRef_init cRef_init 1 none :: gW
theorem hdRef_init : yRef_init.cls ≠ "java/lang/invoke/MethodHandle" ∧ yRef_init.cls ≠ "java/lang/invoke/VarHandle" ∧ (parseMethodDescriptor yRef_init.desc).map (fun d => d.parameters.length) = some 0 := by decide +kernel
abbrev cRef_isSecret : ByteArray := prog_11_method_3_code
abbrev yRef_isSecret : MethodName := ⟨"SecretRowsModel", "isSecret", "(I)Z"⟩
abbrev wsRef_isSecret : List Cond := .code yRef_isSecret cRef_isSecret 2 (some .boolean) :: gW
theorem hdRef_isSecret : yRef_isSecret.cls ≠ "java/lang/invoke/MethodHandle" ∧ yRef_isSecret.cls ≠ "java/lang/invoke/VarHandle" ∧ (parseMethodDescriptor yRef_isSecret.desc).map (fun d => d.parameters.length) = some 1 := by decide +kernel
abbrev cRef_isStep : ByteArray := prog_11_method_4_code
abbrev yRef_isStep : MethodName := ⟨"SecretRowsModel", "isStep", "(I)Z"⟩
abbrev wsRef_isStep : List Cond := .code yRef_isStep cRef_isStep 2 (some .boolean) :: gW
theorem hdRef_isStep : yRef_isStep.cls ≠ "java/lang/invoke/MethodHandle" ∧ yRef_isStep.cls ≠ "java/lang/invoke/VarHandle" ∧ (parseMethodDescriptor yRef_isStep.desc).map (fun d => d.parameters.length) = some 1 := by decide +kernel
abbrev cRef_secret : ByteArray := prog_11_method_5_code
abbrev yRef_secret : MethodName := ⟨"SecretRowsModel", "secret", "(III)I"⟩
abbrev wsRef_secret : List Cond := .code yRef_secret cRef_secret 4 (some .int) :: gW
theorem hdRef_secret : yRef_secret.cls ≠ "java/lang/invoke/MethodHandle" ∧ yRef_secret.cls ≠ "java/lang/invoke/VarHandle" ∧ (parseMethodDescriptor yRef_secret.desc).map (fun d => d.parameters.length) = some 3 := by decide +kernel
abbrev cRef_type : ByteArray := prog_11_method_6_code
abbrev yRef_type : MethodName := ⟨"SecretRowsModel", "type", "(C)Z"⟩
abbrev wsRef_type : List Cond := .code yRef_type cRef_type 2 (some .boolean) :: gW
theorem hdRef_type : yRef_type.cls ≠ "java/lang/invoke/MethodHandle" ∧ yRef_type.cls ≠ "java/lang/invoke/VarHandle" ∧ (parseMethodDescriptor yRef_type.desc).map (fun d => d.parameters.length) = some 1 := by decide +kernel
abbrev cRef_isTaped : ByteArray := prog_11_method_7_code
abbrev yRef_isTaped : MethodName := ⟨"SecretRowsModel", "isTaped", "(II)Z"⟩
abbrev wsRef_isTaped : List Cond := .code yRef_isTaped cRef_isTaped 5 (some .boolean) :: gW
theorem hdRef_isTaped : yRef_isTaped.cls ≠ "java/lang/invoke/MethodHandle" ∧ yRef_isTaped.cls ≠ "java/lang/invoke/VarHandle" ∧ (parseMethodDescriptor yRef_isTaped.desc).map (fun d => d.parameters.length) = some 2 := by decide +kernel
abbrev cRef_set : ByteArray := prog_11_method_8_code
abbrev yRef_set : MethodName := ⟨"SecretRowsModel", "set", "(II)I"⟩
abbrev wsRef_set : List Cond := .code yRef_set cRef_set 5 (some .int) :: gW
theorem hdRef_set : yRef_set.cls ≠ "java/lang/invoke/MethodHandle" ∧ yRef_set.cls ≠ "java/lang/invoke/VarHandle" ∧ (parseMethodDescriptor yRef_set.desc).map (fun d => d.parameters.length) = some 2 := by decide +kernel
abbrev cRef_revoke : ByteArray := prog_11_method_9_code
abbrev yRef_revoke : MethodName := ⟨"SecretRowsModel", "revoke", "(I)Z"⟩
abbrev wsRef_revoke : List Cond := .code yRef_revoke cRef_revoke 2 (some .boolean) :: gW
theorem hdRef_revoke : yRef_revoke.cls ≠ "java/lang/invoke/MethodHandle" ∧ yRef_revoke.cls ≠ "java/lang/invoke/VarHandle" ∧ (parseMethodDescriptor yRef_revoke.desc).map (fun d => d.parameters.length) = some 1 := by decide +kernel
abbrev cRef_tick : ByteArray := prog_11_method_10_code
abbrev yRef_tick : MethodName := ⟨"SecretRowsModel", "tick", "(I)I"⟩
abbrev wsRef_tick : List Cond := .code yRef_tick cRef_tick 2 (some .int) :: gW
theorem hdRef_tick : yRef_tick.cls ≠ "java/lang/invoke/MethodHandle" ∧ yRef_tick.cls ≠ "java/lang/invoke/VarHandle" ∧ (parseMethodDescriptor yRef_tick.desc).map (fun d => d.parameters.length) = some 1 := by decide +kernel
abbrev cRef_step : ByteArray := prog_11_method_11_code
abbrev yRef_step : MethodName := ⟨"SecretRowsModel", "step", "(IIIZ)I"⟩
abbrev wsRef_step : List Cond := .code yRef_step cRef_step 7 (some .int) :: gW
theorem hdRef_step : yRef_step.cls ≠ "java/lang/invoke/MethodHandle" ∧ yRef_step.cls ≠ "java/lang/invoke/VarHandle" ∧ (parseMethodDescriptor yRef_step.desc).map (fun d => d.parameters.length) = some 4 := by decide +kernel
abbrev cRef_keptOf : ByteArray := prog_11_method_12_code
abbrev yRef_keptOf : MethodName := ⟨"SecretRowsModel", "keptOf", "(II)I"⟩
abbrev wsRef_keptOf : List Cond := .code yRef_keptOf cRef_keptOf 3 (some .int) :: gW
theorem hdRef_keptOf : yRef_keptOf.cls ≠ "java/lang/invoke/MethodHandle" ∧ yRef_keptOf.cls ≠ "java/lang/invoke/VarHandle" ∧ (parseMethodDescriptor yRef_keptOf.desc).map (fun d => d.parameters.length) = some 2 := by decide +kernel
abbrev cRef_sees : ByteArray := prog_11_method_13_code
abbrev yRef_sees : MethodName := ⟨"SecretRowsModel", "sees", "(II)I"⟩
abbrev wsRef_sees : List Cond := .code yRef_sees cRef_sees 5 (some .int) :: gW
theorem hdRef_sees : yRef_sees.cls ≠ "java/lang/invoke/MethodHandle" ∧ yRef_sees.cls ≠ "java/lang/invoke/VarHandle" ∧ (parseMethodDescriptor yRef_sees.desc).map (fun d => d.parameters.length) = some 2 := by decide +kernel
abbrev cRef_read : ByteArray := prog_11_method_14_code
abbrev yRef_read : MethodName := ⟨"SecretRowsModel", "read", "(III)I"⟩
abbrev wsRef_read : List Cond := .code yRef_read cRef_read 5 (some .int) :: gW
theorem hdRef_read : yRef_read.cls ≠ "java/lang/invoke/MethodHandle" ∧ yRef_read.cls ≠ "java/lang/invoke/VarHandle" ∧ (parseMethodDescriptor yRef_read.desc).map (fun d => d.parameters.length) = some 3 := by decide +kernel
abbrev cRef_audit : ByteArray := prog_11_method_15_code
abbrev yRef_audit : MethodName := ⟨"SecretRowsModel", "audit", "(II)I"⟩
abbrev wsRef_audit : List Cond := .code yRef_audit cRef_audit 3 (some .int) :: gW
theorem hdRef_audit : yRef_audit.cls ≠ "java/lang/invoke/MethodHandle" ∧ yRef_audit.cls ≠ "java/lang/invoke/VarHandle" ∧ (parseMethodDescriptor yRef_audit.desc).map (fun d => d.parameters.length) = some 2 := by decide +kernel
abbrev cRef_counts : ByteArray := prog_11_method_16_code
abbrev yRef_counts : MethodName := ⟨"SecretRowsModel", "counts", "(I)Z"⟩
abbrev wsRef_counts : List Cond := .code yRef_counts cRef_counts 3 (some .boolean) :: gW
theorem hdRef_counts : yRef_counts.cls ≠ "java/lang/invoke/MethodHandle" ∧ yRef_counts.cls ≠ "java/lang/invoke/VarHandle" ∧ (parseMethodDescriptor yRef_counts.desc).map (fun d => d.parameters.length) = some 1 := by decide +kernel
abbrev cRef_formLength : ByteArray := prog_11_method_17_code
abbrev yRef_formLength : MethodName := ⟨"SecretRowsModel", "formLength", "(II)I"⟩
abbrev wsRef_formLength : List Cond := .code yRef_formLength cRef_formLength 3 (some .int) :: gW
theorem hdRef_formLength : yRef_formLength.cls ≠ "java/lang/invoke/MethodHandle" ∧ yRef_formLength.cls ≠ "java/lang/invoke/VarHandle" ∧ (parseMethodDescriptor yRef_formLength.desc).map (fun d => d.parameters.length) = some 2 := by decide +kernel
abbrev cRef_digit : ByteArray := prog_11_method_18_code
abbrev yRef_digit : MethodName := ⟨"SecretRowsModel", "digit", "(I)I"⟩
abbrev wsRef_digit : List Cond := .code yRef_digit cRef_digit 1 (some .int) :: gW
theorem hdRef_digit : yRef_digit.cls ≠ "java/lang/invoke/MethodHandle" ∧ yRef_digit.cls ≠ "java/lang/invoke/VarHandle" ∧ (parseMethodDescriptor yRef_digit.desc).map (fun d => d.parameters.length) = some 1 := by decide +kernel
abbrev cRef_formSign : ByteArray := prog_11_method_19_code
abbrev yRef_formSign : MethodName := ⟨"SecretRowsModel", "formSign", "(III)I"⟩
abbrev wsRef_formSign : List Cond := .code yRef_formSign cRef_formSign 4 (some .int) :: gW
theorem hdRef_formSign : yRef_formSign.cls ≠ "java/lang/invoke/MethodHandle" ∧ yRef_formSign.cls ≠ "java/lang/invoke/VarHandle" ∧ (parseMethodDescriptor yRef_formSign.desc).map (fun d => d.parameters.length) = some 3 := by decide +kernel
abbrev cRef_common : ByteArray := prog_11_method_20_code
abbrev yRef_common : MethodName := ⟨"SecretRowsModel", "common", "([IIIII)I"⟩
abbrev wsRef_common : List Cond := .code yRef_common cRef_common 7 (some .int) :: gW
theorem hdRef_common : yRef_common.cls ≠ "java/lang/invoke/MethodHandle" ∧ yRef_common.cls ≠ "java/lang/invoke/VarHandle" ∧ (parseMethodDescriptor yRef_common.desc).map (fun d => d.parameters.length) = some 5 := by decide +kernel
abbrev cRef_tell : ByteArray := prog_11_method_21_code
abbrev yRef_tell : MethodName := ⟨"SecretRowsModel", "tell", "(II)V"⟩
abbrev wsRef_tell : List Cond := .code yRef_tell cRef_tell 3 none :: gW
theorem hdRef_tell : yRef_tell.cls ≠ "java/lang/invoke/MethodHandle" ∧ yRef_tell.cls ≠ "java/lang/invoke/VarHandle" ∧ (parseMethodDescriptor yRef_tell.desc).map (fun d => d.parameters.length) = some 2 := by decide +kernel
abbrev cRef_cover : ByteArray := prog_11_method_22_code
abbrev yRef_cover : MethodName := ⟨"SecretRowsModel", "cover", "(IZ)V"⟩
abbrev wsRef_cover : List Cond := .code yRef_cover cRef_cover 11 none :: gW
theorem hdRef_cover : yRef_cover.cls ≠ "java/lang/invoke/MethodHandle" ∧ yRef_cover.cls ≠ "java/lang/invoke/VarHandle" ∧ (parseMethodDescriptor yRef_cover.desc).map (fun d => d.parameters.length) = some 2 := by decide +kernel
abbrev cRef_log : ByteArray := prog_11_method_23_code
abbrev yRef_log : MethodName := ⟨"SecretRowsModel", "log", "(I)I"⟩
abbrev wsRef_log : List Cond := .code yRef_log cRef_log 4 (some .int) :: gW
theorem hdRef_log : yRef_log.cls ≠ "java/lang/invoke/MethodHandle" ∧ yRef_log.cls ≠ "java/lang/invoke/VarHandle" ∧ (parseMethodDescriptor yRef_log.desc).map (fun d => d.parameters.length) = some 1 := by decide +kernel
abbrev cRef_close : ByteArray := prog_11_method_24_code
abbrev yRef_close : MethodName := ⟨"SecretRowsModel", "close", "(I)I"⟩
abbrev wsRef_close : List Cond := .code yRef_close cRef_close 2 (some .int) :: gW
theorem hdRef_close : yRef_close.cls ≠ "java/lang/invoke/MethodHandle" ∧ yRef_close.cls ≠ "java/lang/invoke/VarHandle" ∧ (parseMethodDescriptor yRef_close.desc).map (fun d => d.parameters.length) = some 1 := by decide +kernel
abbrev cRef_told : ByteArray := prog_11_method_25_code
abbrev yRef_told : MethodName := ⟨"SecretRowsModel", "told", "(II)I"⟩
abbrev wsRef_told : List Cond := .code yRef_told cRef_told 3 (some .int) :: gW
theorem hdRef_told : yRef_told.cls ≠ "java/lang/invoke/MethodHandle" ∧ yRef_told.cls ≠ "java/lang/invoke/VarHandle" ∧ (parseMethodDescriptor yRef_told.desc).map (fun d => d.parameters.length) = some 2 := by decide +kernel
abbrev cRef_about : ByteArray := prog_11_method_26_code
abbrev yRef_about : MethodName := ⟨"SecretRowsModel", "about", "(II)I"⟩
abbrev wsRef_about : List Cond := .code yRef_about cRef_about 3 (some .int) :: gW
theorem hdRef_about : yRef_about.cls ≠ "java/lang/invoke/MethodHandle" ∧ yRef_about.cls ≠ "java/lang/invoke/VarHandle" ∧ (parseMethodDescriptor yRef_about.desc).map (fun d => d.parameters.length) = some 2 := by decide +kernel
abbrev cRef_token : ByteArray := prog_11_method_27_code
abbrev yRef_token : MethodName := ⟨"SecretRowsModel", "token", "(III)I"⟩
abbrev wsRef_token : List Cond := .code yRef_token cRef_token 4 (some .int) :: gW
theorem hdRef_token : yRef_token.cls ≠ "java/lang/invoke/MethodHandle" ∧ yRef_token.cls ≠ "java/lang/invoke/VarHandle" ∧ (parseMethodDescriptor yRef_token.desc).map (fun d => d.parameters.length) = some 3 := by decide +kernel
abbrev cRef_good : ByteArray := prog_11_method_28_code
abbrev yRef_good : MethodName := ⟨"SecretRowsModel", "good", "(I)Z"⟩
abbrev wsRef_good : List Cond := .code yRef_good cRef_good 2 (some .boolean) :: gW
theorem hdRef_good : yRef_good.cls ≠ "java/lang/invoke/MethodHandle" ∧ yRef_good.cls ≠ "java/lang/invoke/VarHandle" ∧ (parseMethodDescriptor yRef_good.desc).map (fun d => d.parameters.length) = some 1 := by decide +kernel
abbrev cRef_scan : ByteArray := prog_11_method_29_code
abbrev yRef_scan : MethodName := ⟨"SecretRowsModel", "scan", "()I"⟩
abbrev wsRef_scan : List Cond := .code yRef_scan cRef_scan 8 (some .int) :: gW
theorem hdRef_scan : yRef_scan.cls ≠ "java/lang/invoke/MethodHandle" ∧ yRef_scan.cls ≠ "java/lang/invoke/VarHandle" ∧ (parseMethodDescriptor yRef_scan.desc).map (fun d => d.parameters.length) = some 0 := by decide +kernel
abbrev cRef_leak : ByteArray := prog_11_method_30_code
abbrev yRef_leak : MethodName := ⟨"SecretRowsModel", "leak", "(I)I"⟩
abbrev wsRef_leak : List Cond := .code yRef_leak cRef_leak 2 (some .int) :: gW
theorem hdRef_leak : yRef_leak.cls ≠ "java/lang/invoke/MethodHandle" ∧ yRef_leak.cls ≠ "java/lang/invoke/VarHandle" ∧ (parseMethodDescriptor yRef_leak.desc).map (fun d => d.parameters.length) = some 1 := by decide +kernel
theorem kw_1 : Cond.initialized "SecretRows" ∈ gW := kw_t (i := 1) (by decide +kernel) (by decide +kernel)
theorem kw_2 : Cond.initialized "SecretRows$Audit" ∈ gW := kw_t (i := 2) (by decide +kernel) (by decide +kernel)
theorem kw_3 : Cond.initialized "SecretRows$Text" ∈ gW := kw_t (i := 3) (by decide +kernel) (by decide +kernel)
theorem kw_4 : Cond.initialized "java/lang/Math" ∈ gW := kw_t (i := 4) (by decide +kernel) (by decide +kernel)
theorem kw_5 : Cond.initialized "SecretRows$Forms" ∈ gW := kw_t (i := 5) (by decide +kernel) (by decide +kernel)
theorem kw_6 : Cond.initialized "SecretRowsModel" ∈ gW := kw_t (i := 6) (by decide +kernel) (by decide +kernel)
theorem kw_7 : Cond.initialized "SecretRows$Secret" ∈ gW := kw_t (i := 7) (by decide +kernel) (by decide +kernel)
theorem kw_8 : Cond.initialized "SecretRows$Value" ∈ gW := kw_t (i := 8) (by decide +kernel) (by decide +kernel)
theorem kw_9 : Cond.initialized "SecretRows$Step" ∈ gW := kw_t (i := 9) (by decide +kernel) (by decide +kernel)
theorem kw_10 : Cond.initialized "SecretRows$Log" ∈ gW := kw_t (i := 10) (by decide +kernel) (by decide +kernel)
theorem kw_11 : Cond.initialized "SecretRows$Token" ∈ gW := kw_t (i := 11) (by decide +kernel) (by decide +kernel)
theorem kw_17 : Cond.methodLink "SecretRows" 3 ⟨"java/lang/Object", "<init>", "()V"⟩ ∈ gW := kw_t (i := 17) (by decide +kernel) (by decide +kernel)
theorem kw_18 : Cond.instanceMethod ⟨"java/lang/Object", "<init>", "()V"⟩ ∈ gW := kw_t (i := 18) (by decide +kernel) (by decide +kernel)
set_option maxRecDepth 100000 in
theorem kw_19 : (Cond.code ⟨"java/lang/Object", "<init>", "()V"⟩ ⟨#[0xb1]⟩ 1 (Option.none : Option FieldType)) ∈ gW := kw_t (i := 19) rfl rfl
theorem kw_20 : Cond.classLink "SecretRows" 9 "SecretRows$Secret" ∈ gW := kw_t (i := 20) (by decide +kernel) (by decide +kernel)
theorem kw_22 : Cond.classLink "SecretRows" 15 "SecretRows$Step" ∈ gW := kw_t (i := 22) (by decide +kernel) (by decide +kernel)
theorem kw_24 : Cond.classLink "SecretRows" 21 "SecretRows$Token" ∈ gW := kw_t (i := 24) (by decide +kernel) (by decide +kernel)
theorem kw_26 : Cond.classLink "SecretRows" 27 "SecretRows$Audit" ∈ gW := kw_t (i := 26) (by decide +kernel) (by decide +kernel)
theorem kw_27 : Cond.instantiable "SecretRows$Audit" 2 ∈ gW := kw_t (i := 27) (by decide +kernel) (by decide +kernel)
theorem kw_28 : Cond.methodLink "SecretRows" 29 ⟨"SecretRows$Audit", "<init>", "()V"⟩ ∈ gW := kw_t (i := 28) (by decide +kernel) (by decide +kernel)
theorem kw_29 : Cond.instanceMethod ⟨"SecretRows$Audit", "<init>", "()V"⟩ ∈ gW := kw_t (i := 29) (by decide +kernel) (by decide +kernel)
set_option maxRecDepth 100000 in
theorem kw_30 : (Cond.code ⟨"SecretRows$Audit", "<init>", "()V"⟩ prog_2_method_1_code 1 (Option.none : Option FieldType)) ∈ gW := kw_t (i := 30) rfl rfl
theorem kw_31 : Cond.methodLink "SecretRows$Audit" 3 ⟨"java/lang/Object", "<init>", "()V"⟩ ∈ gW := kw_t (i := 31) (by decide +kernel) (by decide +kernel)
theorem kw_32 : Cond.fieldLink "SecretRows$Audit" 9 "SecretRows$Audit" "cells" "[I" ∈ gW := kw_t (i := 32) (by decide +kernel) (by decide +kernel)
theorem kw_33 : Cond.fieldLink "SecretRows$Audit" 15 "SecretRows$Audit" "rows" "I" ∈ gW := kw_t (i := 33) (by decide +kernel) (by decide +kernel)
theorem kw_34 : Cond.laysFinal "SecretRows$Audit" "SecretRows$Audit" "cells" "[I" ∈ gW := kw_t (i := 34) (by decide +kernel) (by decide +kernel)
theorem kw_36 : Cond.lays "SecretRows$Audit" "SecretRows$Audit" "rows" "I" ∈ gW := kw_t (i := 36) (by decide +kernel) (by decide +kernel)
theorem kw_39 : Cond.arrayClass FieldType.int ∈ gW := kw_t (i := 39) (by decide +kernel) (by decide +kernel)
theorem kw_40 : Cond.classLink "SecretRows" 34 "SecretRows$Text" ∈ gW := kw_t (i := 40) (by decide +kernel) (by decide +kernel)
theorem kw_41 : Cond.instantiable "SecretRows$Text" 2 ∈ gW := kw_t (i := 41) (by decide +kernel) (by decide +kernel)
theorem kw_42 : Cond.methodLink "SecretRows" 36 ⟨"SecretRows$Text", "<init>", "(I)V"⟩ ∈ gW := kw_t (i := 42) (by decide +kernel) (by decide +kernel)
theorem kw_43 : Cond.instanceMethod ⟨"SecretRows$Text", "<init>", "(I)V"⟩ ∈ gW := kw_t (i := 43) (by decide +kernel) (by decide +kernel)
set_option maxRecDepth 100000 in
theorem kw_44 : (Cond.code ⟨"SecretRows$Text", "<init>", "(I)V"⟩ prog_7_method_1_code 2 (Option.none : Option FieldType)) ∈ gW := kw_t (i := 44) rfl rfl
theorem kw_45 : Cond.methodLink "SecretRows$Text" 3 ⟨"java/lang/Object", "<init>", "()V"⟩ ∈ gW := kw_t (i := 45) (by decide +kernel) (by decide +kernel)
theorem kw_46 : Cond.methodLink "SecretRows$Text" 9 ⟨"java/lang/Math", "max", "(II)I"⟩ ∈ gW := kw_t (i := 46) (by decide +kernel) (by decide +kernel)
theorem kw_47 : Cond.static ⟨"java/lang/Math", "max", "(II)I"⟩ ∈ gW := kw_t (i := 47) (by decide +kernel) (by decide +kernel)
set_option maxRecDepth 100000 in
theorem kw_48 : (Cond.code ⟨"java/lang/Math", "max", "(II)I"⟩ Lib.Math.max.code 2 (Option.some FieldType.int)) ∈ gW := kw_t (i := 48) rfl rfl
theorem kw_49 : Cond.fieldLink "SecretRows$Text" 15 "SecretRows$Text" "row" "[C" ∈ gW := kw_t (i := 49) (by decide +kernel) (by decide +kernel)
theorem kw_50 : Cond.fieldLink "SecretRows$Text" 21 "SecretRows$Text" "length" "I" ∈ gW := kw_t (i := 50) (by decide +kernel) (by decide +kernel)
theorem kw_51 : Cond.laysFinal "SecretRows$Text" "SecretRows$Text" "row" "[C" ∈ gW := kw_t (i := 51) (by decide +kernel) (by decide +kernel)
theorem kw_53 : Cond.lays "SecretRows$Text" "SecretRows$Text" "length" "I" ∈ gW := kw_t (i := 53) (by decide +kernel) (by decide +kernel)
theorem kw_56 : Cond.arrayClass FieldType.char ∈ gW := kw_t (i := 56) (by decide +kernel) (by decide +kernel)
theorem kw_57 : Cond.classLink "SecretRows" 43 "SecretRows$Forms" ∈ gW := kw_t (i := 57) (by decide +kernel) (by decide +kernel)
theorem kw_58 : Cond.instantiable "SecretRows$Forms" 5 ∈ gW := kw_t (i := 58) (by decide +kernel) (by decide +kernel)
theorem kw_59 : Cond.methodLink "SecretRows" 45 ⟨"SecretRows$Forms", "<init>", "()V"⟩ ∈ gW := kw_t (i := 59) (by decide +kernel) (by decide +kernel)
theorem kw_60 : Cond.instanceMethod ⟨"SecretRows$Forms", "<init>", "()V"⟩ ∈ gW := kw_t (i := 60) (by decide +kernel) (by decide +kernel)
set_option maxRecDepth 100000 in
theorem kw_61 : (Cond.code ⟨"SecretRows$Forms", "<init>", "()V"⟩ prog_3_method_1_code 1 (Option.none : Option FieldType)) ∈ gW := kw_t (i := 61) rfl rfl
theorem kw_62 : Cond.methodLink "SecretRows$Forms" 3 ⟨"java/lang/Object", "<init>", "()V"⟩ ∈ gW := kw_t (i := 62) (by decide +kernel) (by decide +kernel)
theorem kw_63 : Cond.classLink "SecretRows$Forms" 9 "SecretRows$Text" ∈ gW := kw_t (i := 63) (by decide +kernel) (by decide +kernel)
theorem kw_65 : Cond.fieldLink "SecretRows$Forms" 11 "SecretRows$Forms" "texts" "[LSecretRows$Text;" ∈ gW := kw_t (i := 65) (by decide +kernel) (by decide +kernel)
theorem kw_66 : Cond.fieldLink "SecretRows$Forms" 17 "SecretRows$Forms" "owners" "[I" ∈ gW := kw_t (i := 66) (by decide +kernel) (by decide +kernel)
theorem kw_67 : Cond.fieldLink "SecretRows$Forms" 21 "SecretRows$Forms" "kinds" "[I" ∈ gW := kw_t (i := 67) (by decide +kernel) (by decide +kernel)
theorem kw_68 : Cond.fieldLink "SecretRows$Forms" 24 "SecretRows$Forms" "olds" "[I" ∈ gW := kw_t (i := 68) (by decide +kernel) (by decide +kernel)
theorem kw_69 : Cond.fieldLink "SecretRows$Forms" 27 "SecretRows$Forms" "count" "I" ∈ gW := kw_t (i := 69) (by decide +kernel) (by decide +kernel)
theorem kw_70 : Cond.laysFinal "SecretRows$Forms" "SecretRows$Forms" "texts" "[LSecretRows$Text;" ∈ gW := kw_t (i := 70) (by decide +kernel) (by decide +kernel)
theorem kw_72 : Cond.laysFinal "SecretRows$Forms" "SecretRows$Forms" "owners" "[I" ∈ gW := kw_t (i := 72) (by decide +kernel) (by decide +kernel)
theorem kw_74 : Cond.laysFinal "SecretRows$Forms" "SecretRows$Forms" "kinds" "[I" ∈ gW := kw_t (i := 74) (by decide +kernel) (by decide +kernel)
theorem kw_76 : Cond.laysFinal "SecretRows$Forms" "SecretRows$Forms" "olds" "[I" ∈ gW := kw_t (i := 76) (by decide +kernel) (by decide +kernel)
theorem kw_78 : Cond.lays "SecretRows$Forms" "SecretRows$Forms" "count" "I" ∈ gW := kw_t (i := 78) (by decide +kernel) (by decide +kernel)
theorem kw_81 : Cond.fieldLink "SecretRows" 11 "SecretRows" "secrets" "[LSecretRows$Secret;" ∈ gW := kw_t (i := 81) (by decide +kernel) (by decide +kernel)
theorem kw_82 : Cond.fieldLink "SecretRows" 17 "SecretRows" "steps" "[LSecretRows$Step;" ∈ gW := kw_t (i := 82) (by decide +kernel) (by decide +kernel)
theorem kw_83 : Cond.fieldLink "SecretRows" 23 "SecretRows" "tokens" "[LSecretRows$Token;" ∈ gW := kw_t (i := 83) (by decide +kernel) (by decide +kernel)
theorem kw_84 : Cond.fieldLink "SecretRows" 30 "SecretRows" "readings" "LSecretRows$Audit;" ∈ gW := kw_t (i := 84) (by decide +kernel) (by decide +kernel)
theorem kw_85 : Cond.fieldLink "SecretRows" 39 "SecretRows" "tape" "LSecretRows$Text;" ∈ gW := kw_t (i := 85) (by decide +kernel) (by decide +kernel)
theorem kw_86 : Cond.fieldLink "SecretRows" 46 "SecretRows" "forms" "LSecretRows$Forms;" ∈ gW := kw_t (i := 86) (by decide +kernel) (by decide +kernel)
theorem kw_87 : Cond.fieldLink "SecretRows" 60 "SecretRows" "secretCount" "I" ∈ gW := kw_t (i := 87) (by decide +kernel) (by decide +kernel)
theorem kw_88 : Cond.fieldLink "SecretRows" 93 "SecretRows" "stepCount" "I" ∈ gW := kw_t (i := 88) (by decide +kernel) (by decide +kernel)
theorem kw_89 : Cond.fieldLink "SecretRows" 161 "SecretRows" "tokenCount" "I" ∈ gW := kw_t (i := 89) (by decide +kernel) (by decide +kernel)
theorem kw_90 : Cond.fieldLink "SecretRows" 198 "SecretRows" "valueCount" "I" ∈ gW := kw_t (i := 90) (by decide +kernel) (by decide +kernel)
theorem kw_91 : Cond.fieldLink "SecretRows" 86 "SecretRows" "clock" "I" ∈ gW := kw_t (i := 91) (by decide +kernel) (by decide +kernel)
theorem kw_92 : Cond.fieldLink "SecretRows" 50 "SecretRows" "leakSecret" "I" ∈ gW := kw_t (i := 92) (by decide +kernel) (by decide +kernel)
theorem kw_93 : Cond.fieldLink "SecretRows" 54 "SecretRows" "leakForm" "I" ∈ gW := kw_t (i := 93) (by decide +kernel) (by decide +kernel)
theorem kw_94 : Cond.fieldLink "SecretRows" 57 "SecretRows" "leakOld" "I" ∈ gW := kw_t (i := 94) (by decide +kernel) (by decide +kernel)
theorem kw_95 : Cond.laysFinal "SecretRows" "SecretRows" "secrets" "[LSecretRows$Secret;" ∈ gW := kw_t (i := 95) (by decide +kernel) (by decide +kernel)
theorem kw_97 : Cond.laysFinal "SecretRows" "SecretRows" "steps" "[LSecretRows$Step;" ∈ gW := kw_t (i := 97) (by decide +kernel) (by decide +kernel)
theorem kw_99 : Cond.laysFinal "SecretRows" "SecretRows" "tokens" "[LSecretRows$Token;" ∈ gW := kw_t (i := 99) (by decide +kernel) (by decide +kernel)
theorem kw_101 : Cond.laysFinal "SecretRows" "SecretRows" "readings" "LSecretRows$Audit;" ∈ gW := kw_t (i := 101) (by decide +kernel) (by decide +kernel)
theorem kw_103 : Cond.laysFinal "SecretRows" "SecretRows" "tape" "LSecretRows$Text;" ∈ gW := kw_t (i := 103) (by decide +kernel) (by decide +kernel)
theorem kw_105 : Cond.laysFinal "SecretRows" "SecretRows" "forms" "LSecretRows$Forms;" ∈ gW := kw_t (i := 105) (by decide +kernel) (by decide +kernel)
theorem kw_107 : Cond.lays "SecretRows" "SecretRows" "secretCount" "I" ∈ gW := kw_t (i := 107) (by decide +kernel) (by decide +kernel)
theorem kw_109 : Cond.lays "SecretRows" "SecretRows" "stepCount" "I" ∈ gW := kw_t (i := 109) (by decide +kernel) (by decide +kernel)
theorem kw_111 : Cond.lays "SecretRows" "SecretRows" "tokenCount" "I" ∈ gW := kw_t (i := 111) (by decide +kernel) (by decide +kernel)
theorem kw_113 : Cond.lays "SecretRows" "SecretRows" "valueCount" "I" ∈ gW := kw_t (i := 113) (by decide +kernel) (by decide +kernel)
theorem kw_115 : Cond.lays "SecretRows" "SecretRows" "clock" "I" ∈ gW := kw_t (i := 115) (by decide +kernel) (by decide +kernel)
theorem kw_117 : Cond.lays "SecretRows" "SecretRows" "leakSecret" "I" ∈ gW := kw_t (i := 117) (by decide +kernel) (by decide +kernel)
theorem kw_119 : Cond.lays "SecretRows" "SecretRows" "leakForm" "I" ∈ gW := kw_t (i := 119) (by decide +kernel) (by decide +kernel)
theorem kw_121 : Cond.lays "SecretRows" "SecretRows" "leakOld" "I" ∈ gW := kw_t (i := 121) (by decide +kernel) (by decide +kernel)
theorem kw_128 : Cond.instantiable "SecretRows$Secret" 7 ∈ gW := kw_t (i := 128) (by decide +kernel) (by decide +kernel)
theorem kw_129 : Cond.methodLink "SecretRows" 63 ⟨"SecretRows$Secret", "<init>", "(III)V"⟩ ∈ gW := kw_t (i := 129) (by decide +kernel) (by decide +kernel)
theorem kw_130 : Cond.instanceMethod ⟨"SecretRows$Secret", "<init>", "(III)V"⟩ ∈ gW := kw_t (i := 130) (by decide +kernel) (by decide +kernel)
set_option maxRecDepth 100000 in
theorem kw_131 : (Cond.code ⟨"SecretRows$Secret", "<init>", "(III)V"⟩ prog_5_method_1_code 4 (Option.none : Option FieldType)) ∈ gW := kw_t (i := 131) rfl rfl
theorem kw_132 : Cond.methodLink "SecretRows$Secret" 1 ⟨"java/lang/Object", "<init>", "()V"⟩ ∈ gW := kw_t (i := 132) (by decide +kernel) (by decide +kernel)
theorem kw_133 : Cond.fieldLink "SecretRows$Secret" 7 "SecretRows$Secret" "environments" "I" ∈ gW := kw_t (i := 133) (by decide +kernel) (by decide +kernel)
theorem kw_134 : Cond.fieldLink "SecretRows$Secret" 13 "SecretRows$Secret" "branches" "I" ∈ gW := kw_t (i := 134) (by decide +kernel) (by decide +kernel)
theorem kw_135 : Cond.fieldLink "SecretRows$Secret" 16 "SecretRows$Secret" "jobs" "I" ∈ gW := kw_t (i := 135) (by decide +kernel) (by decide +kernel)
theorem kw_136 : Cond.fieldLink "SecretRows$Secret" 19 "SecretRows$Secret" "value" "LSecretRows$Value;" ∈ gW := kw_t (i := 136) (by decide +kernel) (by decide +kernel)
theorem kw_137 : Cond.fieldLinkNest "SecretRows" 226 "SecretRows$Secret" "value" "LSecretRows$Value;" "SecretRows" ∈ gNN := kn_t (i := 137) (by decide +kernel) (by decide +kernel)
theorem kw_138 : Cond.fieldLink "SecretRows$Secret" 23 "SecretRows$Secret" "old" "LSecretRows$Value;" ∈ gW := kw_t (i := 138) (by decide +kernel) (by decide +kernel)
theorem kw_139 : Cond.fieldLinkNest "SecretRows" 232 "SecretRows$Secret" "old" "LSecretRows$Value;" "SecretRows" ∈ gNN := kn_t (i := 139) (by decide +kernel) (by decide +kernel)
theorem kw_140 : Cond.fieldLink "SecretRows$Secret" 26 "SecretRows$Secret" "oldEnd" "I" ∈ gW := kw_t (i := 140) (by decide +kernel) (by decide +kernel)
theorem kw_141 : Cond.fieldLinkNest "SecretRows" 235 "SecretRows$Secret" "oldEnd" "I" "SecretRows" ∈ gNN := kn_t (i := 141) (by decide +kernel) (by decide +kernel)
theorem kw_142 : Cond.fieldLinkNest "SecretRows" 81 "SecretRows$Secret" "revoked" "Z" "SecretRows" ∈ gNN := kn_t (i := 142) (by decide +kernel) (by decide +kernel)
theorem kw_143 : Cond.laysFinal "SecretRows$Secret" "SecretRows$Secret" "environments" "I" ∈ gW := kw_t (i := 143) (by decide +kernel) (by decide +kernel)
theorem kw_145 : Cond.laysFinal "SecretRows$Secret" "SecretRows$Secret" "branches" "I" ∈ gW := kw_t (i := 145) (by decide +kernel) (by decide +kernel)
theorem kw_147 : Cond.laysFinal "SecretRows$Secret" "SecretRows$Secret" "jobs" "I" ∈ gW := kw_t (i := 147) (by decide +kernel) (by decide +kernel)
theorem kw_149 : Cond.lays "SecretRows$Secret" "SecretRows$Secret" "value" "LSecretRows$Value;" ∈ gW := kw_t (i := 149) (by decide +kernel) (by decide +kernel)
theorem kw_151 : Cond.lays "SecretRows$Secret" "SecretRows$Secret" "old" "LSecretRows$Value;" ∈ gW := kw_t (i := 151) (by decide +kernel) (by decide +kernel)
theorem kw_153 : Cond.lays "SecretRows$Secret" "SecretRows$Secret" "oldEnd" "I" ∈ gW := kw_t (i := 153) (by decide +kernel) (by decide +kernel)
theorem kw_155 : Cond.lays "SecretRows$Secret" "SecretRows$Secret" "revoked" "Z" ∈ gW := kw_t (i := 155) (by decide +kernel) (by decide +kernel)
theorem kw_162 : Cond.methodLink "SecretRows" 66 ⟨"SecretRows$Text", "add", "(I)Z"⟩ ∈ gW := kw_t (i := 162) (by decide +kernel) (by decide +kernel)
theorem kw_163 : Cond.instanceMethod ⟨"SecretRows$Text", "add", "(I)Z"⟩ ∈ gW := kw_t (i := 163) (by decide +kernel) (by decide +kernel)
theorem kw_164 : Cond.selects "SecretRows$Text" ⟨"SecretRows$Text", "add", "(I)Z"⟩ ⟨"SecretRows$Text", "add", "(I)Z"⟩ ∈ gW := kw_t (i := 164) (by decide +kernel) (by decide +kernel)
set_option maxRecDepth 100000 in
theorem kw_165 : (Cond.code ⟨"SecretRows$Text", "add", "(I)Z"⟩ prog_7_method_4_code 2 (Option.some FieldType.boolean)) ∈ gW := kw_t (i := 165) rfl rfl
theorem kw_170 : Cond.methodLink "SecretRows" 70 ⟨"SecretRows", "findSecret", "(I)LSecretRows$Secret;"⟩ ∈ gW := kw_t (i := 170) (by decide +kernel) (by decide +kernel)
theorem kw_172 : Cond.instanceMethod ⟨"SecretRows", "findSecret", "(I)LSecretRows$Secret;"⟩ ∈ gW := kw_t (i := 172) (by decide +kernel) (by decide +kernel)
set_option maxRecDepth 100000 in
theorem kw_173 : (Cond.code ⟨"SecretRows", "findSecret", "(I)LSecretRows$Secret;"⟩ prog_1_method_20_code 2 (Option.some (FieldType.object "SecretRows$Secret"))) ∈ gW := kw_t (i := 173) rfl rfl
theorem kw_174 : Cond.methodLink "SecretRows" 74 ⟨"SecretRows", "setFromTape", "(LSecretRows$Secret;I)I"⟩ ∈ gW := kw_t (i := 174) (by decide +kernel) (by decide +kernel)
theorem kw_176 : Cond.instanceMethod ⟨"SecretRows", "setFromTape", "(LSecretRows$Secret;I)I"⟩ ∈ gW := kw_t (i := 176) (by decide +kernel) (by decide +kernel)
set_option maxRecDepth 100000 in
theorem kw_177 : (Cond.code ⟨"SecretRows", "setFromTape", "(LSecretRows$Secret;I)I"⟩ prog_1_method_23_code 3 (Option.some FieldType.int)) ∈ gW := kw_t (i := 177) rfl rfl
theorem kw_178 : Cond.constant "SecretRows" 85 100000 ∈ gW := kw_t (i := 178) (by decide +kernel) (by decide +kernel)
theorem kw_179 : Cond.methodLink "SecretRows" 191 ⟨"SecretRows", "tapeCanBeValue", "()Z"⟩ ∈ gW := kw_t (i := 179) (by decide +kernel) (by decide +kernel)
theorem kw_181 : Cond.instanceMethod ⟨"SecretRows", "tapeCanBeValue", "()Z"⟩ ∈ gW := kw_t (i := 181) (by decide +kernel) (by decide +kernel)
set_option maxRecDepth 100000 in
theorem kw_182 : (Cond.code ⟨"SecretRows", "tapeCanBeValue", "()Z"⟩ prog_1_method_25_code 1 (Option.some FieldType.boolean)) ∈ gW := kw_t (i := 182) rfl rfl
theorem kw_183 : Cond.methodLink "SecretRows" 151 ⟨"SecretRows$Text", "length", "()I"⟩ ∈ gW := kw_t (i := 183) (by decide +kernel) (by decide +kernel)
theorem kw_184 : Cond.instanceMethod ⟨"SecretRows$Text", "length", "()I"⟩ ∈ gW := kw_t (i := 184) (by decide +kernel) (by decide +kernel)
theorem kw_185 : Cond.selects "SecretRows$Text" ⟨"SecretRows$Text", "length", "()I"⟩ ⟨"SecretRows$Text", "length", "()I"⟩ ∈ gW := kw_t (i := 185) (by decide +kernel) (by decide +kernel)
set_option maxRecDepth 100000 in
theorem kw_186 : (Cond.code ⟨"SecretRows$Text", "length", "()I"⟩ prog_7_method_2_code 1 (Option.some FieldType.int)) ∈ gW := kw_t (i := 186) rfl rfl
theorem kw_187 : Cond.methodLink "SecretRows" 215 ⟨"SecretRows$Text", "has", "(C)Z"⟩ ∈ gW := kw_t (i := 187) (by decide +kernel) (by decide +kernel)
theorem kw_188 : Cond.instanceMethod ⟨"SecretRows$Text", "has", "(C)Z"⟩ ∈ gW := kw_t (i := 188) (by decide +kernel) (by decide +kernel)
theorem kw_189 : Cond.selects "SecretRows$Text" ⟨"SecretRows$Text", "has", "(C)Z"⟩ ⟨"SecretRows$Text", "has", "(C)Z"⟩ ∈ gW := kw_t (i := 189) (by decide +kernel) (by decide +kernel)
set_option maxRecDepth 100000 in
theorem kw_190 : (Cond.code ⟨"SecretRows$Text", "has", "(C)Z"⟩ prog_7_method_7_code 3 (Option.some FieldType.boolean)) ∈ gW := kw_t (i := 190) rfl rfl
theorem kw_191 : Cond.methodLink "SecretRows$Text" 25 ⟨"SecretRows$Text", "at", "(I)I"⟩ ∈ gW := kw_t (i := 191) (by decide +kernel) (by decide +kernel)
theorem kw_192 : Cond.instanceMethod ⟨"SecretRows$Text", "at", "(I)I"⟩ ∈ gW := kw_t (i := 192) (by decide +kernel) (by decide +kernel)
theorem kw_193 : Cond.selects "SecretRows$Text" ⟨"SecretRows$Text", "at", "(I)I"⟩ ⟨"SecretRows$Text", "at", "(I)I"⟩ ∈ gW := kw_t (i := 193) (by decide +kernel) (by decide +kernel)
set_option maxRecDepth 100000 in
theorem kw_194 : (Cond.code ⟨"SecretRows$Text", "at", "(I)I"⟩ prog_7_method_3_code 2 (Option.some FieldType.int)) ∈ gW := kw_t (i := 194) rfl rfl
theorem kw_195 : Cond.methodLink "SecretRows" 195 ⟨"SecretRows", "tapeIsHad", "()Z"⟩ ∈ gW := kw_t (i := 195) (by decide +kernel) (by decide +kernel)
theorem kw_197 : Cond.instanceMethod ⟨"SecretRows", "tapeIsHad", "()Z"⟩ ∈ gW := kw_t (i := 197) (by decide +kernel) (by decide +kernel)
set_option maxRecDepth 100000 in
theorem kw_198 : (Cond.code ⟨"SecretRows", "tapeIsHad", "()Z"⟩ prog_1_method_26_code 3 (Option.some FieldType.boolean)) ∈ gW := kw_t (i := 198) rfl rfl
theorem kw_199 : Cond.methodLink "SecretRows" 219 ⟨"SecretRows$Secret", "has", "(LSecretRows$Text;)Z"⟩ ∈ gW := kw_t (i := 199) (by decide +kernel) (by decide +kernel)
theorem kw_200 : Cond.instanceMethod ⟨"SecretRows$Secret", "has", "(LSecretRows$Text;)Z"⟩ ∈ gW := kw_t (i := 200) (by decide +kernel) (by decide +kernel)
theorem kw_201 : Cond.selects "SecretRows$Secret" ⟨"SecretRows$Secret", "has", "(LSecretRows$Text;)Z"⟩ ⟨"SecretRows$Secret", "has", "(LSecretRows$Text;)Z"⟩ ∈ gW := kw_t (i := 201) (by decide +kernel) (by decide +kernel)
set_option maxRecDepth 100000 in
theorem kw_202 : (Cond.code ⟨"SecretRows$Secret", "has", "(LSecretRows$Text;)Z"⟩ prog_5_method_4_code 2 (Option.some FieldType.boolean)) ∈ gW := kw_t (i := 202) rfl rfl
theorem kw_203 : Cond.methodLink "SecretRows$Secret" 35 ⟨"SecretRows$Text", "isLike", "(LSecretRows$Text;)Z"⟩ ∈ gW := kw_t (i := 203) (by decide +kernel) (by decide +kernel)
theorem kw_204 : Cond.instanceMethod ⟨"SecretRows$Text", "isLike", "(LSecretRows$Text;)Z"⟩ ∈ gW := kw_t (i := 204) (by decide +kernel) (by decide +kernel)
theorem kw_205 : Cond.selects "SecretRows$Text" ⟨"SecretRows$Text", "isLike", "(LSecretRows$Text;)Z"⟩ ⟨"SecretRows$Text", "isLike", "(LSecretRows$Text;)Z"⟩ ∈ gW := kw_t (i := 205) (by decide +kernel) (by decide +kernel)
set_option maxRecDepth 100000 in
theorem kw_206 : (Cond.code ⟨"SecretRows$Text", "isLike", "(LSecretRows$Text;)Z"⟩ prog_7_method_8_code 2 (Option.some FieldType.boolean)) ∈ gW := kw_t (i := 206) rfl rfl
theorem kw_207 : Cond.methodLink "SecretRows$Text" 33 ⟨"SecretRows$Text", "agrees", "(LSecretRows$Text;I)Z"⟩ ∈ gW := kw_t (i := 207) (by decide +kernel) (by decide +kernel)
theorem kw_208 : Cond.instanceMethod ⟨"SecretRows$Text", "agrees", "(LSecretRows$Text;I)Z"⟩ ∈ gW := kw_t (i := 208) (by decide +kernel) (by decide +kernel)
theorem kw_209 : Cond.selects "SecretRows$Text" ⟨"SecretRows$Text", "agrees", "(LSecretRows$Text;I)Z"⟩ ⟨"SecretRows$Text", "agrees", "(LSecretRows$Text;I)Z"⟩ ∈ gW := kw_t (i := 209) (by decide +kernel) (by decide +kernel)
set_option maxRecDepth 100000 in
theorem kw_210 : (Cond.code ⟨"SecretRows$Text", "agrees", "(LSecretRows$Text;I)Z"⟩ prog_7_method_9_code 5 (Option.some FieldType.boolean)) ∈ gW := kw_t (i := 210) rfl rfl
theorem kw_211 : Cond.methodLink "SecretRows$Text" 37 ⟨"java/lang/Math", "min", "(II)I"⟩ ∈ gW := kw_t (i := 211) (by decide +kernel) (by decide +kernel)
theorem kw_212 : Cond.static ⟨"java/lang/Math", "min", "(II)I"⟩ ∈ gW := kw_t (i := 212) (by decide +kernel) (by decide +kernel)
set_option maxRecDepth 100000 in
theorem kw_213 : (Cond.code ⟨"java/lang/Math", "min", "(II)I"⟩ Lib.Math.min.code 2 (Option.some FieldType.int)) ∈ gW := kw_t (i := 213) rfl rfl
theorem kw_214 : Cond.classLink "SecretRows" 117 "SecretRows$Value" ∈ gW := kw_t (i := 214) (by decide +kernel) (by decide +kernel)
theorem kw_215 : Cond.instantiable "SecretRows$Value" 4 ∈ gW := kw_t (i := 215) (by decide +kernel) (by decide +kernel)
theorem kw_216 : Cond.methodLink "SecretRows" 201 ⟨"SecretRows$Value", "<init>", "(ILSecretRows$Text;)V"⟩ ∈ gW := kw_t (i := 216) (by decide +kernel) (by decide +kernel)
theorem kw_217 : Cond.instanceMethod ⟨"SecretRows$Value", "<init>", "(ILSecretRows$Text;)V"⟩ ∈ gW := kw_t (i := 217) (by decide +kernel) (by decide +kernel)
set_option maxRecDepth 100000 in
theorem kw_218 : (Cond.code ⟨"SecretRows$Value", "<init>", "(ILSecretRows$Text;)V"⟩ prog_9_method_1_code 3 (Option.none : Option FieldType)) ∈ gW := kw_t (i := 218) rfl rfl
theorem kw_219 : Cond.methodLink "SecretRows$Value" 1 ⟨"java/lang/Object", "<init>", "()V"⟩ ∈ gW := kw_t (i := 219) (by decide +kernel) (by decide +kernel)
theorem kw_220 : Cond.classLink "SecretRows$Value" 13 "SecretRows$Text" ∈ gW := kw_t (i := 220) (by decide +kernel) (by decide +kernel)
theorem kw_221 : Cond.methodLink "SecretRows$Value" 15 ⟨"SecretRows$Text", "length", "()I"⟩ ∈ gW := kw_t (i := 221) (by decide +kernel) (by decide +kernel)
theorem kw_222 : Cond.methodLink "SecretRows$Value" 19 ⟨"SecretRows$Text", "<init>", "(I)V"⟩ ∈ gW := kw_t (i := 222) (by decide +kernel) (by decide +kernel)
theorem kw_223 : Cond.methodLink "SecretRows$Value" 26 ⟨"SecretRows$Text", "addAll", "(LSecretRows$Text;)V"⟩ ∈ gW := kw_t (i := 223) (by decide +kernel) (by decide +kernel)
theorem kw_224 : Cond.instanceMethod ⟨"SecretRows$Text", "addAll", "(LSecretRows$Text;)V"⟩ ∈ gW := kw_t (i := 224) (by decide +kernel) (by decide +kernel)
theorem kw_225 : Cond.selects "SecretRows$Text" ⟨"SecretRows$Text", "addAll", "(LSecretRows$Text;)V"⟩ ⟨"SecretRows$Text", "addAll", "(LSecretRows$Text;)V"⟩ ∈ gW := kw_t (i := 225) (by decide +kernel) (by decide +kernel)
set_option maxRecDepth 100000 in
theorem kw_226 : (Cond.code ⟨"SecretRows$Text", "addAll", "(LSecretRows$Text;)V"⟩ prog_7_method_5_code 3 (Option.none : Option FieldType)) ∈ gW := kw_t (i := 226) rfl rfl
theorem kw_227 : Cond.methodLink "SecretRows$Text" 29 ⟨"SecretRows$Text", "add", "(I)Z"⟩ ∈ gW := kw_t (i := 227) (by decide +kernel) (by decide +kernel)
theorem kw_228 : Cond.methodLink "SecretRows$Value" 30 ⟨"SecretRows$Value", "turned", "(LSecretRows$Text;)LSecretRows$Text;"⟩ ∈ gW := kw_t (i := 228) (by decide +kernel) (by decide +kernel)
theorem kw_229 : Cond.static ⟨"SecretRows$Value", "turned", "(LSecretRows$Text;)LSecretRows$Text;"⟩ ∈ gW := kw_t (i := 229) (by decide +kernel) (by decide +kernel)
set_option maxRecDepth 100000 in
theorem kw_230 : (Cond.code ⟨"SecretRows$Value", "turned", "(LSecretRows$Text;)LSecretRows$Text;"⟩ prog_9_method_2_code 3 (Option.some (FieldType.object "SecretRows$Text"))) ∈ gW := kw_t (i := 230) rfl rfl
theorem kw_231 : Cond.methodLink "SecretRows$Value" 43 ⟨"SecretRows$Text", "at", "(I)I"⟩ ∈ gW := kw_t (i := 231) (by decide +kernel) (by decide +kernel)
theorem kw_232 : Cond.methodLink "SecretRows$Value" 47 ⟨"SecretRows$Text", "add", "(I)Z"⟩ ∈ gW := kw_t (i := 232) (by decide +kernel) (by decide +kernel)
theorem kw_233 : Cond.methodLink "SecretRows$Value" 37 ⟨"SecretRows$Value", "codesOf", "(LSecretRows$Text;)LSecretRows$Text;"⟩ ∈ gW := kw_t (i := 233) (by decide +kernel) (by decide +kernel)
theorem kw_234 : Cond.static ⟨"SecretRows$Value", "codesOf", "(LSecretRows$Text;)LSecretRows$Text;"⟩ ∈ gW := kw_t (i := 234) (by decide +kernel) (by decide +kernel)
set_option maxRecDepth 100000 in
theorem kw_235 : (Cond.code ⟨"SecretRows$Value", "codesOf", "(LSecretRows$Text;)LSecretRows$Text;"⟩ prog_9_method_3_code 3 (Option.some (FieldType.object "SecretRows$Text"))) ∈ gW := kw_t (i := 235) rfl rfl
theorem kw_236 : Cond.methodLink "SecretRows$Value" 51 ⟨"SecretRows$Value", "digit", "(I)I"⟩ ∈ gW := kw_t (i := 236) (by decide +kernel) (by decide +kernel)
theorem kw_237 : Cond.static ⟨"SecretRows$Value", "digit", "(I)I"⟩ ∈ gW := kw_t (i := 237) (by decide +kernel) (by decide +kernel)
set_option maxRecDepth 100000 in
theorem kw_238 : (Cond.code ⟨"SecretRows$Value", "digit", "(I)I"⟩ prog_9_method_4_code 1 (Option.some FieldType.int)) ∈ gW := kw_t (i := 238) rfl rfl
theorem kw_239 : Cond.fieldLink "SecretRows$Value" 7 "SecretRows$Value" "number" "I" ∈ gW := kw_t (i := 239) (by decide +kernel) (by decide +kernel)
theorem kw_240 : Cond.fieldLinkNest "SecretRows$Secret" 41 "SecretRows$Value" "number" "I" "SecretRows" ∈ gNN := kn_t (i := 240) (by decide +kernel) (by decide +kernel)
theorem kw_241 : Cond.fieldLink "SecretRows$Value" 22 "SecretRows$Value" "text" "LSecretRows$Text;" ∈ gW := kw_t (i := 241) (by decide +kernel) (by decide +kernel)
theorem kw_242 : Cond.fieldLinkNest "SecretRows$Forms" 31 "SecretRows$Value" "text" "LSecretRows$Text;" "SecretRows" ∈ gNN := kn_t (i := 242) (by decide +kernel) (by decide +kernel)
theorem kw_243 : Cond.fieldLinkNest "SecretRows$Secret" 29 "SecretRows$Value" "text" "LSecretRows$Text;" "SecretRows" ∈ gNN := kn_t (i := 243) (by decide +kernel) (by decide +kernel)
theorem kw_244 : Cond.fieldLinkNest "SecretRows" 116 "SecretRows$Value" "text" "LSecretRows$Text;" "SecretRows" ∈ gNN := kn_t (i := 244) (by decide +kernel) (by decide +kernel)
theorem kw_245 : Cond.fieldLink "SecretRows$Value" 34 "SecretRows$Value" "fromTheEnd" "LSecretRows$Text;" ∈ gW := kw_t (i := 245) (by decide +kernel) (by decide +kernel)
theorem kw_246 : Cond.fieldLinkNest "SecretRows$Forms" 41 "SecretRows$Value" "fromTheEnd" "LSecretRows$Text;" "SecretRows" ∈ gNN := kn_t (i := 246) (by decide +kernel) (by decide +kernel)
theorem kw_247 : Cond.fieldLink "SecretRows$Value" 40 "SecretRows$Value" "byCodes" "LSecretRows$Text;" ∈ gW := kw_t (i := 247) (by decide +kernel) (by decide +kernel)
theorem kw_248 : Cond.fieldLinkNest "SecretRows$Forms" 44 "SecretRows$Value" "byCodes" "LSecretRows$Text;" "SecretRows" ∈ gNN := kn_t (i := 248) (by decide +kernel) (by decide +kernel)
theorem kw_249 : Cond.laysFinal "SecretRows$Value" "SecretRows$Value" "number" "I" ∈ gW := kw_t (i := 249) (by decide +kernel) (by decide +kernel)
theorem kw_251 : Cond.laysFinal "SecretRows$Value" "SecretRows$Value" "text" "LSecretRows$Text;" ∈ gW := kw_t (i := 251) (by decide +kernel) (by decide +kernel)
theorem kw_253 : Cond.laysFinal "SecretRows$Value" "SecretRows$Value" "fromTheEnd" "LSecretRows$Text;" ∈ gW := kw_t (i := 253) (by decide +kernel) (by decide +kernel)
theorem kw_255 : Cond.laysFinal "SecretRows$Value" "SecretRows$Value" "byCodes" "LSecretRows$Text;" ∈ gW := kw_t (i := 255) (by decide +kernel) (by decide +kernel)
theorem kw_258 : Cond.methodLink "SecretRows" 204 ⟨"SecretRows$Secret", "rotate", "(LSecretRows$Value;I)V"⟩ ∈ gW := kw_t (i := 258) (by decide +kernel) (by decide +kernel)
theorem kw_259 : Cond.instanceMethod ⟨"SecretRows$Secret", "rotate", "(LSecretRows$Value;I)V"⟩ ∈ gW := kw_t (i := 259) (by decide +kernel) (by decide +kernel)
theorem kw_260 : Cond.selects "SecretRows$Secret" ⟨"SecretRows$Secret", "rotate", "(LSecretRows$Value;I)V"⟩ ⟨"SecretRows$Secret", "rotate", "(LSecretRows$Value;I)V"⟩ ∈ gW := kw_t (i := 260) (by decide +kernel) (by decide +kernel)
set_option maxRecDepth 100000 in
theorem kw_261 : (Cond.code ⟨"SecretRows$Secret", "rotate", "(LSecretRows$Value;I)V"⟩ prog_5_method_3_code 3 (Option.none : Option FieldType)) ∈ gW := kw_t (i := 261) rfl rfl
theorem kw_262 : Cond.methodLink "SecretRows" 78 ⟨"SecretRows$Text", "clear", "()V"⟩ ∈ gW := kw_t (i := 262) (by decide +kernel) (by decide +kernel)
theorem kw_263 : Cond.instanceMethod ⟨"SecretRows$Text", "clear", "()V"⟩ ∈ gW := kw_t (i := 263) (by decide +kernel) (by decide +kernel)
theorem kw_264 : Cond.selects "SecretRows$Text" ⟨"SecretRows$Text", "clear", "()V"⟩ ⟨"SecretRows$Text", "clear", "()V"⟩ ∈ gW := kw_t (i := 264) (by decide +kernel) (by decide +kernel)
set_option maxRecDepth 100000 in
theorem kw_265 : (Cond.code ⟨"SecretRows$Text", "clear", "()V"⟩ prog_7_method_6_code 1 (Option.none : Option FieldType)) ∈ gW := kw_t (i := 265) rfl rfl
theorem kw_274 : Cond.constant "SecretRows" 89 1000000000 ∈ gW := kw_t (i := 274) (by decide +kernel) (by decide +kernel)
theorem kw_279 : Cond.methodLink "SecretRows" 90 ⟨"SecretRows", "isBit", "(I)Z"⟩ ∈ gW := kw_t (i := 279) (by decide +kernel) (by decide +kernel)
theorem kw_280 : Cond.static ⟨"SecretRows", "isBit", "(I)Z"⟩ ∈ gW := kw_t (i := 280) (by decide +kernel) (by decide +kernel)
set_option maxRecDepth 100000 in
theorem kw_281 : (Cond.code ⟨"SecretRows", "isBit", "(I)Z"⟩ prog_1_method_19_code 1 (Option.some FieldType.boolean)) ∈ gW := kw_t (i := 281) rfl rfl
theorem kw_282 : Cond.instantiable "SecretRows$Step" 2 ∈ gW := kw_t (i := 282) (by decide +kernel) (by decide +kernel)
theorem kw_283 : Cond.methodLink "SecretRows" 96 ⟨"SecretRows$Step", "<init>", "()V"⟩ ∈ gW := kw_t (i := 283) (by decide +kernel) (by decide +kernel)
theorem kw_284 : Cond.instanceMethod ⟨"SecretRows$Step", "<init>", "()V"⟩ ∈ gW := kw_t (i := 284) (by decide +kernel) (by decide +kernel)
set_option maxRecDepth 100000 in
theorem kw_285 : (Cond.code ⟨"SecretRows$Step", "<init>", "()V"⟩ prog_6_method_1_code 1 (Option.none : Option FieldType)) ∈ gW := kw_t (i := 285) rfl rfl
theorem kw_286 : Cond.methodLink "SecretRows$Step" 3 ⟨"java/lang/Object", "<init>", "()V"⟩ ∈ gW := kw_t (i := 286) (by decide +kernel) (by decide +kernel)
theorem kw_287 : Cond.classLink "SecretRows$Step" 9 "SecretRows$Value" ∈ gW := kw_t (i := 287) (by decide +kernel) (by decide +kernel)
theorem kw_289 : Cond.classLink "SecretRows$Step" 17 "SecretRows$Log" ∈ gW := kw_t (i := 289) (by decide +kernel) (by decide +kernel)
theorem kw_290 : Cond.instantiable "SecretRows$Log" 5 ∈ gW := kw_t (i := 290) (by decide +kernel) (by decide +kernel)
theorem kw_291 : Cond.methodLink "SecretRows$Step" 19 ⟨"SecretRows$Log", "<init>", "()V"⟩ ∈ gW := kw_t (i := 291) (by decide +kernel) (by decide +kernel)
theorem kw_292 : Cond.instanceMethod ⟨"SecretRows$Log", "<init>", "()V"⟩ ∈ gW := kw_t (i := 292) (by decide +kernel) (by decide +kernel)
set_option maxRecDepth 100000 in
theorem kw_293 : (Cond.code ⟨"SecretRows$Log", "<init>", "()V"⟩ prog_4_method_1_code 1 (Option.none : Option FieldType)) ∈ gW := kw_t (i := 293) rfl rfl
theorem kw_294 : Cond.methodLink "SecretRows$Log" 3 ⟨"java/lang/Object", "<init>", "()V"⟩ ∈ gW := kw_t (i := 294) (by decide +kernel) (by decide +kernel)
theorem kw_295 : Cond.classLink "SecretRows$Log" 9 "SecretRows$Text" ∈ gW := kw_t (i := 295) (by decide +kernel) (by decide +kernel)
theorem kw_296 : Cond.methodLink "SecretRows$Log" 11 ⟨"SecretRows$Text", "<init>", "(I)V"⟩ ∈ gW := kw_t (i := 296) (by decide +kernel) (by decide +kernel)
theorem kw_297 : Cond.fieldLink "SecretRows$Log" 14 "SecretRows$Log" "came" "LSecretRows$Text;" ∈ gW := kw_t (i := 297) (by decide +kernel) (by decide +kernel)
theorem kw_298 : Cond.fieldLink "SecretRows$Log" 20 "SecretRows$Log" "told" "LSecretRows$Text;" ∈ gW := kw_t (i := 298) (by decide +kernel) (by decide +kernel)
theorem kw_299 : Cond.fieldLinkNest "SecretRows" 148 "SecretRows$Log" "told" "LSecretRows$Text;" "SecretRows" ∈ gNN := kn_t (i := 299) (by decide +kernel) (by decide +kernel)
theorem kw_300 : Cond.fieldLink "SecretRows$Log" 31 "SecretRows$Log" "done" "I" ∈ gW := kw_t (i := 300) (by decide +kernel) (by decide +kernel)
theorem kw_301 : Cond.fieldLink "SecretRows$Log" 67 "SecretRows$Log" "covered" "I" ∈ gW := kw_t (i := 301) (by decide +kernel) (by decide +kernel)
theorem kw_302 : Cond.fieldLinkNest "SecretRows" 158 "SecretRows$Log" "covered" "I" "SecretRows" ∈ gNN := kn_t (i := 302) (by decide +kernel) (by decide +kernel)
theorem kw_303 : Cond.fieldLink "SecretRows$Log" 23 "SecretRows$Log" "closed" "Z" ∈ gW := kw_t (i := 303) (by decide +kernel) (by decide +kernel)
theorem kw_304 : Cond.fieldLinkNest "SecretRows" 136 "SecretRows$Log" "closed" "Z" "SecretRows" ∈ gNN := kn_t (i := 304) (by decide +kernel) (by decide +kernel)
theorem kw_305 : Cond.laysFinal "SecretRows$Log" "SecretRows$Log" "came" "LSecretRows$Text;" ∈ gW := kw_t (i := 305) (by decide +kernel) (by decide +kernel)
theorem kw_307 : Cond.laysFinal "SecretRows$Log" "SecretRows$Log" "told" "LSecretRows$Text;" ∈ gW := kw_t (i := 307) (by decide +kernel) (by decide +kernel)
theorem kw_309 : Cond.lays "SecretRows$Log" "SecretRows$Log" "done" "I" ∈ gW := kw_t (i := 309) (by decide +kernel) (by decide +kernel)
theorem kw_311 : Cond.lays "SecretRows$Log" "SecretRows$Log" "covered" "I" ∈ gW := kw_t (i := 311) (by decide +kernel) (by decide +kernel)
theorem kw_313 : Cond.lays "SecretRows$Log" "SecretRows$Log" "closed" "Z" ∈ gW := kw_t (i := 313) (by decide +kernel) (by decide +kernel)
theorem kw_316 : Cond.fieldLink "SecretRows$Step" 11 "SecretRows$Step" "kept" "[LSecretRows$Value;" ∈ gW := kw_t (i := 316) (by decide +kernel) (by decide +kernel)
theorem kw_317 : Cond.fieldLink "SecretRows$Step" 20 "SecretRows$Step" "log" "LSecretRows$Log;" ∈ gW := kw_t (i := 317) (by decide +kernel) (by decide +kernel)
theorem kw_318 : Cond.fieldLinkNest "SecretRows" 132 "SecretRows$Step" "log" "LSecretRows$Log;" "SecretRows" ∈ gNN := kn_t (i := 318) (by decide +kernel) (by decide +kernel)
theorem kw_319 : Cond.laysFinal "SecretRows$Step" "SecretRows$Step" "kept" "[LSecretRows$Value;" ∈ gW := kw_t (i := 319) (by decide +kernel) (by decide +kernel)
theorem kw_321 : Cond.laysFinal "SecretRows$Step" "SecretRows$Step" "log" "LSecretRows$Log;" ∈ gW := kw_t (i := 321) (by decide +kernel) (by decide +kernel)
theorem kw_324 : Cond.methodLink "SecretRows" 97 ⟨"SecretRows", "keepSeen", "(LSecretRows$Step;III)V"⟩ ∈ gW := kw_t (i := 324) (by decide +kernel) (by decide +kernel)
theorem kw_326 : Cond.instanceMethod ⟨"SecretRows", "keepSeen", "(LSecretRows$Step;III)V"⟩ ∈ gW := kw_t (i := 326) (by decide +kernel) (by decide +kernel)
set_option maxRecDepth 100000 in
theorem kw_327 : (Cond.code ⟨"SecretRows", "keepSeen", "(LSecretRows$Step;III)V"⟩ prog_1_method_27_code 7 (Option.none : Option FieldType)) ∈ gW := kw_t (i := 327) rfl rfl
theorem kw_328 : Cond.methodLink "SecretRows" 222 ⟨"SecretRows$Secret", "isFor", "(III)Z"⟩ ∈ gW := kw_t (i := 328) (by decide +kernel) (by decide +kernel)
theorem kw_329 : Cond.instanceMethod ⟨"SecretRows$Secret", "isFor", "(III)Z"⟩ ∈ gW := kw_t (i := 329) (by decide +kernel) (by decide +kernel)
theorem kw_330 : Cond.selects "SecretRows$Secret" ⟨"SecretRows$Secret", "isFor", "(III)Z"⟩ ⟨"SecretRows$Secret", "isFor", "(III)Z"⟩ ∈ gW := kw_t (i := 330) (by decide +kernel) (by decide +kernel)
set_option maxRecDepth 100000 in
theorem kw_331 : (Cond.code ⟨"SecretRows$Secret", "isFor", "(III)Z"⟩ prog_5_method_2_code 4 (Option.some FieldType.boolean)) ∈ gW := kw_t (i := 331) rfl rfl
theorem kw_332 : Cond.methodLink "SecretRows" 227 ⟨"SecretRows$Step", "keep", "(ILSecretRows$Value;)V"⟩ ∈ gW := kw_t (i := 332) (by decide +kernel) (by decide +kernel)
theorem kw_333 : Cond.instanceMethod ⟨"SecretRows$Step", "keep", "(ILSecretRows$Value;)V"⟩ ∈ gW := kw_t (i := 333) (by decide +kernel) (by decide +kernel)
theorem kw_334 : Cond.selects "SecretRows$Step" ⟨"SecretRows$Step", "keep", "(ILSecretRows$Value;)V"⟩ ⟨"SecretRows$Step", "keep", "(ILSecretRows$Value;)V"⟩ ∈ gW := kw_t (i := 334) (by decide +kernel) (by decide +kernel)
set_option maxRecDepth 100000 in
theorem kw_335 : (Cond.code ⟨"SecretRows$Step", "keep", "(ILSecretRows$Value;)V"⟩ prog_6_method_2_code 3 (Option.none : Option FieldType)) ∈ gW := kw_t (i := 335) rfl rfl
theorem kw_340 : Cond.methodLink "SecretRows" 101 ⟨"SecretRows", "findStep", "(I)LSecretRows$Step;"⟩ ∈ gW := kw_t (i := 340) (by decide +kernel) (by decide +kernel)
theorem kw_342 : Cond.instanceMethod ⟨"SecretRows", "findStep", "(I)LSecretRows$Step;"⟩ ∈ gW := kw_t (i := 342) (by decide +kernel) (by decide +kernel)
set_option maxRecDepth 100000 in
theorem kw_343 : (Cond.code ⟨"SecretRows", "findStep", "(I)LSecretRows$Step;"⟩ prog_1_method_21_code 2 (Option.some (FieldType.object "SecretRows$Step"))) ∈ gW := kw_t (i := 343) rfl rfl
theorem kw_344 : Cond.methodLink "SecretRows" 105 ⟨"SecretRows$Step", "seenAt", "(I)I"⟩ ∈ gW := kw_t (i := 344) (by decide +kernel) (by decide +kernel)
theorem kw_345 : Cond.instanceMethod ⟨"SecretRows$Step", "seenAt", "(I)I"⟩ ∈ gW := kw_t (i := 345) (by decide +kernel) (by decide +kernel)
theorem kw_346 : Cond.selects "SecretRows$Step" ⟨"SecretRows$Step", "seenAt", "(I)I"⟩ ⟨"SecretRows$Step", "seenAt", "(I)I"⟩ ∈ gW := kw_t (i := 346) (by decide +kernel) (by decide +kernel)
set_option maxRecDepth 100000 in
theorem kw_347 : (Cond.code ⟨"SecretRows$Step", "seenAt", "(I)I"⟩ prog_6_method_4_code 4 (Option.some FieldType.int)) ∈ gW := kw_t (i := 347) rfl rfl
theorem kw_352 : Cond.methodLink "SecretRows" 109 ⟨"SecretRows", "keptValue", "(II)LSecretRows$Value;"⟩ ∈ gW := kw_t (i := 352) (by decide +kernel) (by decide +kernel)
theorem kw_354 : Cond.instanceMethod ⟨"SecretRows", "keptValue", "(II)LSecretRows$Value;"⟩ ∈ gW := kw_t (i := 354) (by decide +kernel) (by decide +kernel)
set_option maxRecDepth 100000 in
theorem kw_355 : (Cond.code ⟨"SecretRows", "keptValue", "(II)LSecretRows$Value;"⟩ prog_1_method_22_code 4 (Option.some (FieldType.object "SecretRows$Value"))) ∈ gW := kw_t (i := 355) rfl rfl
theorem kw_356 : Cond.methodLink "SecretRows" 187 ⟨"SecretRows$Step", "keptOf", "(I)LSecretRows$Value;"⟩ ∈ gW := kw_t (i := 356) (by decide +kernel) (by decide +kernel)
theorem kw_357 : Cond.instanceMethod ⟨"SecretRows$Step", "keptOf", "(I)LSecretRows$Value;"⟩ ∈ gW := kw_t (i := 357) (by decide +kernel) (by decide +kernel)
theorem kw_358 : Cond.selects "SecretRows$Step" ⟨"SecretRows$Step", "keptOf", "(I)LSecretRows$Value;"⟩ ⟨"SecretRows$Step", "keptOf", "(I)LSecretRows$Value;"⟩ ∈ gW := kw_t (i := 358) (by decide +kernel) (by decide +kernel)
set_option maxRecDepth 100000 in
theorem kw_359 : (Cond.code ⟨"SecretRows$Step", "keptOf", "(I)LSecretRows$Value;"⟩ prog_6_method_3_code 2 (Option.some (FieldType.object "SecretRows$Value"))) ∈ gW := kw_t (i := 359) rfl rfl
theorem kw_360 : Cond.methodLink "SecretRows" 113 ⟨"SecretRows$Audit", "tell", "(III)V"⟩ ∈ gW := kw_t (i := 360) (by decide +kernel) (by decide +kernel)
theorem kw_361 : Cond.instanceMethod ⟨"SecretRows$Audit", "tell", "(III)V"⟩ ∈ gW := kw_t (i := 361) (by decide +kernel) (by decide +kernel)
theorem kw_362 : Cond.selects "SecretRows$Audit" ⟨"SecretRows$Audit", "tell", "(III)V"⟩ ⟨"SecretRows$Audit", "tell", "(III)V"⟩ ∈ gW := kw_t (i := 362) (by decide +kernel) (by decide +kernel)
set_option maxRecDepth 100000 in
theorem kw_363 : (Cond.code ⟨"SecretRows$Audit", "tell", "(III)V"⟩ prog_2_method_2_code 5 (Option.none : Option FieldType)) ∈ gW := kw_t (i := 363) rfl rfl
theorem kw_364 : Cond.methodLink "SecretRows" 121 ⟨"SecretRows$Text", "at", "(I)I"⟩ ∈ gW := kw_t (i := 364) (by decide +kernel) (by decide +kernel)
theorem kw_369 : Cond.methodLink "SecretRows" 124 ⟨"SecretRows$Audit", "cell", "(II)I"⟩ ∈ gW := kw_t (i := 369) (by decide +kernel) (by decide +kernel)
theorem kw_370 : Cond.instanceMethod ⟨"SecretRows$Audit", "cell", "(II)I"⟩ ∈ gW := kw_t (i := 370) (by decide +kernel) (by decide +kernel)
theorem kw_371 : Cond.selects "SecretRows$Audit" ⟨"SecretRows$Audit", "cell", "(II)I"⟩ ⟨"SecretRows$Audit", "cell", "(II)I"⟩ ∈ gW := kw_t (i := 371) (by decide +kernel) (by decide +kernel)
set_option maxRecDepth 100000 in
theorem kw_372 : (Cond.code ⟨"SecretRows$Audit", "cell", "(II)I"⟩ prog_2_method_3_code 4 (Option.some FieldType.int)) ∈ gW := kw_t (i := 372) rfl rfl
theorem kw_377 : Cond.methodLink "SecretRows" 128 ⟨"SecretRows", "logFromTape", "(LSecretRows$Step;)I"⟩ ∈ gW := kw_t (i := 377) (by decide +kernel) (by decide +kernel)
theorem kw_379 : Cond.instanceMethod ⟨"SecretRows", "logFromTape", "(LSecretRows$Step;)I"⟩ ∈ gW := kw_t (i := 379) (by decide +kernel) (by decide +kernel)
set_option maxRecDepth 100000 in
theorem kw_380 : (Cond.code ⟨"SecretRows", "logFromTape", "(LSecretRows$Step;)I"⟩ prog_1_method_24_code 2 (Option.some FieldType.int)) ∈ gW := kw_t (i := 380) rfl rfl
theorem kw_381 : Cond.methodLink "SecretRows" 208 ⟨"SecretRows$Log", "takes", "(I)Z"⟩ ∈ gW := kw_t (i := 381) (by decide +kernel) (by decide +kernel)
theorem kw_382 : Cond.instanceMethod ⟨"SecretRows$Log", "takes", "(I)Z"⟩ ∈ gW := kw_t (i := 382) (by decide +kernel) (by decide +kernel)
theorem kw_383 : Cond.selects "SecretRows$Log" ⟨"SecretRows$Log", "takes", "(I)Z"⟩ ⟨"SecretRows$Log", "takes", "(I)Z"⟩ ∈ gW := kw_t (i := 383) (by decide +kernel) (by decide +kernel)
set_option maxRecDepth 100000 in
theorem kw_384 : (Cond.code ⟨"SecretRows$Log", "takes", "(I)Z"⟩ prog_4_method_2_code 2 (Option.some FieldType.boolean)) ∈ gW := kw_t (i := 384) rfl rfl
theorem kw_385 : Cond.methodLink "SecretRows$Log" 27 ⟨"SecretRows$Text", "length", "()I"⟩ ∈ gW := kw_t (i := 385) (by decide +kernel) (by decide +kernel)
theorem kw_386 : Cond.methodLink "SecretRows" 141 ⟨"SecretRows", "gatherForms", "()V"⟩ ∈ gW := kw_t (i := 386) (by decide +kernel) (by decide +kernel)
theorem kw_388 : Cond.instanceMethod ⟨"SecretRows", "gatherForms", "()V"⟩ ∈ gW := kw_t (i := 388) (by decide +kernel) (by decide +kernel)
set_option maxRecDepth 100000 in
theorem kw_389 : (Cond.code ⟨"SecretRows", "gatherForms", "()V"⟩ prog_1_method_28_code 3 (Option.none : Option FieldType)) ∈ gW := kw_t (i := 389) rfl rfl
theorem kw_390 : Cond.methodLink "SecretRows" 231 ⟨"SecretRows$Forms", "clear", "()V"⟩ ∈ gW := kw_t (i := 390) (by decide +kernel) (by decide +kernel)
theorem kw_391 : Cond.instanceMethod ⟨"SecretRows$Forms", "clear", "()V"⟩ ∈ gW := kw_t (i := 391) (by decide +kernel) (by decide +kernel)
theorem kw_392 : Cond.selects "SecretRows$Forms" ⟨"SecretRows$Forms", "clear", "()V"⟩ ⟨"SecretRows$Forms", "clear", "()V"⟩ ∈ gW := kw_t (i := 392) (by decide +kernel) (by decide +kernel)
set_option maxRecDepth 100000 in
theorem kw_393 : (Cond.code ⟨"SecretRows$Forms", "clear", "()V"⟩ prog_3_method_2_code 1 (Option.none : Option FieldType)) ∈ gW := kw_t (i := 393) rfl rfl
theorem kw_394 : Cond.methodLink "SecretRows" 238 ⟨"SecretRows$Forms", "addAll", "(ILSecretRows$Value;I)V"⟩ ∈ gW := kw_t (i := 394) (by decide +kernel) (by decide +kernel)
theorem kw_395 : Cond.instanceMethod ⟨"SecretRows$Forms", "addAll", "(ILSecretRows$Value;I)V"⟩ ∈ gW := kw_t (i := 395) (by decide +kernel) (by decide +kernel)
theorem kw_396 : Cond.selects "SecretRows$Forms" ⟨"SecretRows$Forms", "addAll", "(ILSecretRows$Value;I)V"⟩ ⟨"SecretRows$Forms", "addAll", "(ILSecretRows$Value;I)V"⟩ ∈ gW := kw_t (i := 396) (by decide +kernel) (by decide +kernel)
set_option maxRecDepth 100000 in
theorem kw_397 : (Cond.code ⟨"SecretRows$Forms", "addAll", "(ILSecretRows$Value;I)V"⟩ prog_3_method_3_code 4 (Option.none : Option FieldType)) ∈ gW := kw_t (i := 397) rfl rfl
theorem kw_398 : Cond.methodLink "SecretRows$Forms" 37 ⟨"SecretRows$Forms", "add", "(LSecretRows$Text;III)V"⟩ ∈ gW := kw_t (i := 398) (by decide +kernel) (by decide +kernel)
theorem kw_400 : Cond.instanceMethod ⟨"SecretRows$Forms", "add", "(LSecretRows$Text;III)V"⟩ ∈ gW := kw_t (i := 400) (by decide +kernel) (by decide +kernel)
set_option maxRecDepth 100000 in
theorem kw_401 : (Cond.code ⟨"SecretRows$Forms", "add", "(LSecretRows$Text;III)V"⟩ prog_3_method_4_code 5 (Option.none : Option FieldType)) ∈ gW := kw_t (i := 401) rfl rfl
theorem kw_402 : Cond.methodLink "SecretRows" 211 ⟨"SecretRows$Log", "come", "(LSecretRows$Text;LSecretRows$Forms;)V"⟩ ∈ gW := kw_t (i := 402) (by decide +kernel) (by decide +kernel)
theorem kw_403 : Cond.instanceMethod ⟨"SecretRows$Log", "come", "(LSecretRows$Text;LSecretRows$Forms;)V"⟩ ∈ gW := kw_t (i := 403) (by decide +kernel) (by decide +kernel)
theorem kw_404 : Cond.selects "SecretRows$Log" ⟨"SecretRows$Log", "come", "(LSecretRows$Text;LSecretRows$Forms;)V"⟩ ⟨"SecretRows$Log", "come", "(LSecretRows$Text;LSecretRows$Forms;)V"⟩ ∈ gW := kw_t (i := 404) (by decide +kernel) (by decide +kernel)
set_option maxRecDepth 100000 in
theorem kw_405 : (Cond.code ⟨"SecretRows$Log", "come", "(LSecretRows$Text;LSecretRows$Forms;)V"⟩ prog_4_method_4_code 3 (Option.none : Option FieldType)) ∈ gW := kw_t (i := 405) rfl rfl
theorem kw_406 : Cond.methodLink "SecretRows$Log" 35 ⟨"SecretRows$Text", "addAll", "(LSecretRows$Text;)V"⟩ ∈ gW := kw_t (i := 406) (by decide +kernel) (by decide +kernel)
theorem kw_407 : Cond.methodLink "SecretRows$Log" 39 ⟨"SecretRows$Log", "cover", "(LSecretRows$Forms;Z)V"⟩ ∈ gW := kw_t (i := 407) (by decide +kernel) (by decide +kernel)
theorem kw_409 : Cond.instanceMethod ⟨"SecretRows$Log", "cover", "(LSecretRows$Forms;Z)V"⟩ ∈ gW := kw_t (i := 409) (by decide +kernel) (by decide +kernel)
set_option maxRecDepth 100000 in
theorem kw_410 : (Cond.code ⟨"SecretRows$Log", "cover", "(LSecretRows$Forms;Z)V"⟩ prog_4_method_6_code 5 (Option.none : Option FieldType)) ∈ gW := kw_t (i := 410) rfl rfl
theorem kw_411 : Cond.methodLink "SecretRows$Log" 43 ⟨"SecretRows$Forms", "mayCome", "(LSecretRows$Text;I)Z"⟩ ∈ gW := kw_t (i := 411) (by decide +kernel) (by decide +kernel)
theorem kw_412 : Cond.instanceMethod ⟨"SecretRows$Forms", "mayCome", "(LSecretRows$Text;I)Z"⟩ ∈ gW := kw_t (i := 412) (by decide +kernel) (by decide +kernel)
theorem kw_413 : Cond.selects "SecretRows$Forms" ⟨"SecretRows$Forms", "mayCome", "(LSecretRows$Text;I)Z"⟩ ⟨"SecretRows$Forms", "mayCome", "(LSecretRows$Text;I)Z"⟩ ∈ gW := kw_t (i := 413) (by decide +kernel) (by decide +kernel)
set_option maxRecDepth 100000 in
theorem kw_414 : (Cond.code ⟨"SecretRows$Forms", "mayCome", "(LSecretRows$Text;I)Z"⟩ prog_3_method_10_code 6 (Option.some FieldType.boolean)) ∈ gW := kw_t (i := 414) rfl rfl
theorem kw_415 : Cond.methodLink "SecretRows$Forms" 55 ⟨"SecretRows$Text", "length", "()I"⟩ ∈ gW := kw_t (i := 415) (by decide +kernel) (by decide +kernel)
theorem kw_416 : Cond.methodLink "SecretRows$Forms" 51 ⟨"SecretRows$Forms", "textOf", "(I)LSecretRows$Text;"⟩ ∈ gW := kw_t (i := 416) (by decide +kernel) (by decide +kernel)
theorem kw_418 : Cond.instanceMethod ⟨"SecretRows$Forms", "textOf", "(I)LSecretRows$Text;"⟩ ∈ gW := kw_t (i := 418) (by decide +kernel) (by decide +kernel)
set_option maxRecDepth 100000 in
theorem kw_419 : (Cond.code ⟨"SecretRows$Forms", "textOf", "(I)LSecretRows$Text;"⟩ prog_3_method_12_code 2 (Option.some (FieldType.object "SecretRows$Text"))) ∈ gW := kw_t (i := 419) rfl rfl
theorem kw_420 : Cond.methodLink "SecretRows$Forms" 47 ⟨"SecretRows$Forms", "isThere", "(I)Z"⟩ ∈ gW := kw_t (i := 420) (by decide +kernel) (by decide +kernel)
theorem kw_422 : Cond.instanceMethod ⟨"SecretRows$Forms", "isThere", "(I)Z"⟩ ∈ gW := kw_t (i := 422) (by decide +kernel) (by decide +kernel)
set_option maxRecDepth 100000 in
theorem kw_423 : (Cond.code ⟨"SecretRows$Forms", "isThere", "(I)Z"⟩ prog_3_method_11_code 2 (Option.some FieldType.boolean)) ∈ gW := kw_t (i := 423) rfl rfl
theorem kw_424 : Cond.methodLink "SecretRows$Forms" 59 ⟨"SecretRows$Text", "agrees", "(LSecretRows$Text;I)Z"⟩ ∈ gW := kw_t (i := 424) (by decide +kernel) (by decide +kernel)
theorem kw_425 : Cond.methodLink "SecretRows$Log" 49 ⟨"SecretRows$Forms", "longestWhole", "(LSecretRows$Text;I)I"⟩ ∈ gW := kw_t (i := 425) (by decide +kernel) (by decide +kernel)
theorem kw_426 : Cond.instanceMethod ⟨"SecretRows$Forms", "longestWhole", "(LSecretRows$Text;I)I"⟩ ∈ gW := kw_t (i := 426) (by decide +kernel) (by decide +kernel)
theorem kw_427 : Cond.selects "SecretRows$Forms" ⟨"SecretRows$Forms", "longestWhole", "(LSecretRows$Text;I)I"⟩ ⟨"SecretRows$Forms", "longestWhole", "(LSecretRows$Text;I)I"⟩ ∈ gW := kw_t (i := 427) (by decide +kernel) (by decide +kernel)
set_option maxRecDepth 100000 in
theorem kw_428 : (Cond.code ⟨"SecretRows$Forms", "longestWhole", "(LSecretRows$Text;I)I"⟩ prog_3_method_9_code 8 (Option.some FieldType.int)) ∈ gW := kw_t (i := 428) rfl rfl
theorem kw_429 : Cond.methodLink "SecretRows$Log" 53 ⟨"SecretRows$Text", "at", "(I)I"⟩ ∈ gW := kw_t (i := 429) (by decide +kernel) (by decide +kernel)
theorem kw_430 : Cond.methodLink "SecretRows$Log" 57 ⟨"SecretRows$Text", "add", "(I)Z"⟩ ∈ gW := kw_t (i := 430) (by decide +kernel) (by decide +kernel)
theorem kw_431 : Cond.methodLink "SecretRows$Log" 61 ⟨"SecretRows$Log", "tellStars", "()V"⟩ ∈ gW := kw_t (i := 431) (by decide +kernel) (by decide +kernel)
theorem kw_433 : Cond.instanceMethod ⟨"SecretRows$Log", "tellStars", "()V"⟩ ∈ gW := kw_t (i := 433) (by decide +kernel) (by decide +kernel)
set_option maxRecDepth 100000 in
theorem kw_434 : (Cond.code ⟨"SecretRows$Log", "tellStars", "()V"⟩ prog_4_method_7_code 2 (Option.none : Option FieldType)) ∈ gW := kw_t (i := 434) rfl rfl
theorem kw_435 : Cond.methodLink "SecretRows$Log" 64 ⟨"SecretRows$Forms", "lengthOf", "(I)I"⟩ ∈ gW := kw_t (i := 435) (by decide +kernel) (by decide +kernel)
theorem kw_436 : Cond.instanceMethod ⟨"SecretRows$Forms", "lengthOf", "(I)I"⟩ ∈ gW := kw_t (i := 436) (by decide +kernel) (by decide +kernel)
theorem kw_437 : Cond.selects "SecretRows$Forms" ⟨"SecretRows$Forms", "lengthOf", "(I)I"⟩ ⟨"SecretRows$Forms", "lengthOf", "(I)I"⟩ ∈ gW := kw_t (i := 437) (by decide +kernel) (by decide +kernel)
set_option maxRecDepth 100000 in
theorem kw_438 : (Cond.code ⟨"SecretRows$Forms", "lengthOf", "(I)I"⟩ prog_3_method_8_code 3 (Option.some FieldType.int)) ∈ gW := kw_t (i := 438) rfl rfl
theorem kw_443 : Cond.methodLink "SecretRows" 144 ⟨"SecretRows$Log", "end", "(LSecretRows$Forms;)V"⟩ ∈ gW := kw_t (i := 443) (by decide +kernel) (by decide +kernel)
theorem kw_444 : Cond.instanceMethod ⟨"SecretRows$Log", "end", "(LSecretRows$Forms;)V"⟩ ∈ gW := kw_t (i := 444) (by decide +kernel) (by decide +kernel)
theorem kw_445 : Cond.selects "SecretRows$Log" ⟨"SecretRows$Log", "end", "(LSecretRows$Forms;)V"⟩ ⟨"SecretRows$Log", "end", "(LSecretRows$Forms;)V"⟩ ∈ gW := kw_t (i := 445) (by decide +kernel) (by decide +kernel)
set_option maxRecDepth 100000 in
theorem kw_446 : (Cond.code ⟨"SecretRows$Log", "end", "(LSecretRows$Forms;)V"⟩ prog_4_method_5_code 2 (Option.none : Option FieldType)) ∈ gW := kw_t (i := 446) rfl rfl
theorem kw_455 : Cond.methodLink "SecretRows" 155 ⟨"SecretRows$Log", "heldCount", "()I"⟩ ∈ gW := kw_t (i := 455) (by decide +kernel) (by decide +kernel)
theorem kw_456 : Cond.instanceMethod ⟨"SecretRows$Log", "heldCount", "()I"⟩ ∈ gW := kw_t (i := 456) (by decide +kernel) (by decide +kernel)
theorem kw_457 : Cond.selects "SecretRows$Log" ⟨"SecretRows$Log", "heldCount", "()I"⟩ ⟨"SecretRows$Log", "heldCount", "()I"⟩ ∈ gW := kw_t (i := 457) (by decide +kernel) (by decide +kernel)
set_option maxRecDepth 100000 in
theorem kw_458 : (Cond.code ⟨"SecretRows$Log", "heldCount", "()I"⟩ prog_4_method_3_code 1 (Option.some FieldType.int)) ∈ gW := kw_t (i := 458) rfl rfl
theorem kw_463 : Cond.instantiable "SecretRows$Token" 3 ∈ gW := kw_t (i := 463) (by decide +kernel) (by decide +kernel)
theorem kw_464 : Cond.methodLink "SecretRows" 164 ⟨"SecretRows$Token", "<init>", "(ILSecretRows$Value;I)V"⟩ ∈ gW := kw_t (i := 464) (by decide +kernel) (by decide +kernel)
theorem kw_465 : Cond.instanceMethod ⟨"SecretRows$Token", "<init>", "(ILSecretRows$Value;I)V"⟩ ∈ gW := kw_t (i := 465) (by decide +kernel) (by decide +kernel)
set_option maxRecDepth 100000 in
theorem kw_466 : (Cond.code ⟨"SecretRows$Token", "<init>", "(ILSecretRows$Value;I)V"⟩ prog_8_method_1_code 4 (Option.none : Option FieldType)) ∈ gW := kw_t (i := 466) rfl rfl
theorem kw_467 : Cond.methodLink "SecretRows$Token" 1 ⟨"java/lang/Object", "<init>", "()V"⟩ ∈ gW := kw_t (i := 467) (by decide +kernel) (by decide +kernel)
theorem kw_468 : Cond.fieldLink "SecretRows$Token" 7 "SecretRows$Token" "secret" "I" ∈ gW := kw_t (i := 468) (by decide +kernel) (by decide +kernel)
theorem kw_469 : Cond.fieldLinkNest "SecretRows" 167 "SecretRows$Token" "secret" "I" "SecretRows" ∈ gNN := kn_t (i := 469) (by decide +kernel) (by decide +kernel)
theorem kw_470 : Cond.fieldLink "SecretRows$Token" 13 "SecretRows$Token" "value" "LSecretRows$Value;" ∈ gW := kw_t (i := 470) (by decide +kernel) (by decide +kernel)
theorem kw_471 : Cond.fieldLinkNest "SecretRows" 172 "SecretRows$Token" "value" "LSecretRows$Value;" "SecretRows" ∈ gNN := kn_t (i := 471) (by decide +kernel) (by decide +kernel)
theorem kw_472 : Cond.fieldLink "SecretRows$Token" 17 "SecretRows$Token" "end" "I" ∈ gW := kw_t (i := 472) (by decide +kernel) (by decide +kernel)
theorem kw_473 : Cond.fieldLinkNest "SecretRows" 170 "SecretRows$Token" "end" "I" "SecretRows" ∈ gNN := kn_t (i := 473) (by decide +kernel) (by decide +kernel)
theorem kw_474 : Cond.laysFinal "SecretRows$Token" "SecretRows$Token" "secret" "I" ∈ gW := kw_t (i := 474) (by decide +kernel) (by decide +kernel)
theorem kw_476 : Cond.laysFinal "SecretRows$Token" "SecretRows$Token" "value" "LSecretRows$Value;" ∈ gW := kw_t (i := 476) (by decide +kernel) (by decide +kernel)
theorem kw_478 : Cond.laysFinal "SecretRows$Token" "SecretRows$Token" "end" "I" ∈ gW := kw_t (i := 478) (by decide +kernel) (by decide +kernel)
theorem kw_485 : Cond.methodLink "SecretRows" 176 ⟨"SecretRows$Secret", "stillHas", "(LSecretRows$Value;)Z"⟩ ∈ gW := kw_t (i := 485) (by decide +kernel) (by decide +kernel)
theorem kw_486 : Cond.instanceMethod ⟨"SecretRows$Secret", "stillHas", "(LSecretRows$Value;)Z"⟩ ∈ gW := kw_t (i := 486) (by decide +kernel) (by decide +kernel)
theorem kw_487 : Cond.selects "SecretRows$Secret" ⟨"SecretRows$Secret", "stillHas", "(LSecretRows$Value;)Z"⟩ ⟨"SecretRows$Secret", "stillHas", "(LSecretRows$Value;)Z"⟩ ∈ gW := kw_t (i := 487) (by decide +kernel) (by decide +kernel)
set_option maxRecDepth 100000 in
theorem kw_488 : (Cond.code ⟨"SecretRows$Secret", "stillHas", "(LSecretRows$Value;)Z"⟩ prog_5_method_5_code 2 (Option.some FieldType.boolean)) ∈ gW := kw_t (i := 488) rfl rfl
theorem kw_493 : Cond.methodLink "SecretRows" 180 ⟨"SecretRows$Forms", "longestWhole", "(LSecretRows$Text;I)I"⟩ ∈ gW := kw_t (i := 493) (by decide +kernel) (by decide +kernel)
theorem kw_494 : Cond.methodLink "SecretRows" 184 ⟨"SecretRows", "rememberLeak", "(I)V"⟩ ∈ gW := kw_t (i := 494) (by decide +kernel) (by decide +kernel)
theorem kw_496 : Cond.instanceMethod ⟨"SecretRows", "rememberLeak", "(I)V"⟩ ∈ gW := kw_t (i := 496) (by decide +kernel) (by decide +kernel)
set_option maxRecDepth 100000 in
theorem kw_497 : (Cond.code ⟨"SecretRows", "rememberLeak", "(I)V"⟩ prog_1_method_29_code 2 (Option.none : Option FieldType)) ∈ gW := kw_t (i := 497) rfl rfl
theorem kw_498 : Cond.methodLink "SecretRows" 241 ⟨"SecretRows$Forms", "ownerOf", "(I)I"⟩ ∈ gW := kw_t (i := 498) (by decide +kernel) (by decide +kernel)
theorem kw_499 : Cond.instanceMethod ⟨"SecretRows$Forms", "ownerOf", "(I)I"⟩ ∈ gW := kw_t (i := 499) (by decide +kernel) (by decide +kernel)
theorem kw_500 : Cond.selects "SecretRows$Forms" ⟨"SecretRows$Forms", "ownerOf", "(I)I"⟩ ⟨"SecretRows$Forms", "ownerOf", "(I)I"⟩ ∈ gW := kw_t (i := 500) (by decide +kernel) (by decide +kernel)
set_option maxRecDepth 100000 in
theorem kw_501 : (Cond.code ⟨"SecretRows$Forms", "ownerOf", "(I)I"⟩ prog_3_method_5_code 2 (Option.some FieldType.int)) ∈ gW := kw_t (i := 501) rfl rfl
theorem kw_502 : Cond.methodLink "SecretRows" 244 ⟨"SecretRows$Forms", "kindOf", "(I)I"⟩ ∈ gW := kw_t (i := 502) (by decide +kernel) (by decide +kernel)
theorem kw_503 : Cond.instanceMethod ⟨"SecretRows$Forms", "kindOf", "(I)I"⟩ ∈ gW := kw_t (i := 503) (by decide +kernel) (by decide +kernel)
theorem kw_504 : Cond.selects "SecretRows$Forms" ⟨"SecretRows$Forms", "kindOf", "(I)I"⟩ ⟨"SecretRows$Forms", "kindOf", "(I)I"⟩ ∈ gW := kw_t (i := 504) (by decide +kernel) (by decide +kernel)
set_option maxRecDepth 100000 in
theorem kw_505 : (Cond.code ⟨"SecretRows$Forms", "kindOf", "(I)I"⟩ prog_3_method_6_code 2 (Option.some FieldType.int)) ∈ gW := kw_t (i := 505) rfl rfl
theorem kw_506 : Cond.methodLink "SecretRows" 247 ⟨"SecretRows$Forms", "oldOf", "(I)I"⟩ ∈ gW := kw_t (i := 506) (by decide +kernel) (by decide +kernel)
theorem kw_507 : Cond.instanceMethod ⟨"SecretRows$Forms", "oldOf", "(I)I"⟩ ∈ gW := kw_t (i := 507) (by decide +kernel) (by decide +kernel)
theorem kw_508 : Cond.selects "SecretRows$Forms" ⟨"SecretRows$Forms", "oldOf", "(I)I"⟩ ⟨"SecretRows$Forms", "oldOf", "(I)I"⟩ ∈ gW := kw_t (i := 508) (by decide +kernel) (by decide +kernel)
set_option maxRecDepth 100000 in
theorem kw_509 : (Cond.code ⟨"SecretRows$Forms", "oldOf", "(I)I"⟩ prog_3_method_7_code 2 (Option.some FieldType.int)) ∈ gW := kw_t (i := 509) rfl rfl
theorem kw_519 : Cond.methodLink "SecretRowsModel" 1 ⟨"java/lang/Object", "<init>", "()V"⟩ ∈ gW := kw_t (i := 519) (by decide +kernel) (by decide +kernel)
theorem kw_520 : Cond.fieldLink "SecretRowsModel" 90 "SecretRowsModel" "code" "I" ∈ gW := kw_t (i := 520) (by decide +kernel) (by decide +kernel)
theorem kw_521 : Cond.fieldLink "SecretRowsModel" 114 "SecretRowsModel" "clock" "I" ∈ gW := kw_t (i := 521) (by decide +kernel) (by decide +kernel)
theorem kw_522 : Cond.fieldLink "SecretRowsModel" 93 "SecretRowsModel" "secrets" "I" ∈ gW := kw_t (i := 522) (by decide +kernel) (by decide +kernel)
theorem kw_523 : Cond.fieldLink "SecretRowsModel" 111 "SecretRowsModel" "valuesMany" "I" ∈ gW := kw_t (i := 523) (by decide +kernel) (by decide +kernel)
theorem kw_524 : Cond.fieldLink "SecretRowsModel" 96 "SecretRowsModel" "steps" "I" ∈ gW := kw_t (i := 524) (by decide +kernel) (by decide +kernel)
theorem kw_525 : Cond.fieldLink "SecretRowsModel" 154 "SecretRowsModel" "tokens" "I" ∈ gW := kw_t (i := 525) (by decide +kernel) (by decide +kernel)
theorem kw_526 : Cond.fieldLink "SecretRowsModel" 125 "SecretRowsModel" "audits" "I" ∈ gW := kw_t (i := 526) (by decide +kernel) (by decide +kernel)
theorem kw_527 : Cond.fieldLink "SecretRowsModel" 7 "SecretRowsModel" "whose" "[I" ∈ gW := kw_t (i := 527) (by decide +kernel) (by decide +kernel)
theorem kw_528 : Cond.fieldLink "SecretRowsModel" 13 "SecretRowsModel" "length" "[I" ∈ gW := kw_t (i := 528) (by decide +kernel) (by decide +kernel)
theorem kw_529 : Cond.fieldLink "SecretRowsModel" 16 "SecretRowsModel" "sign" "[I" ∈ gW := kw_t (i := 529) (by decide +kernel) (by decide +kernel)
theorem kw_530 : Cond.fieldLink "SecretRowsModel" 19 "SecretRowsModel" "environments" "[I" ∈ gW := kw_t (i := 530) (by decide +kernel) (by decide +kernel)
theorem kw_531 : Cond.fieldLink "SecretRowsModel" 22 "SecretRowsModel" "branches" "[I" ∈ gW := kw_t (i := 531) (by decide +kernel) (by decide +kernel)
theorem kw_532 : Cond.fieldLink "SecretRowsModel" 25 "SecretRowsModel" "jobs" "[I" ∈ gW := kw_t (i := 532) (by decide +kernel) (by decide +kernel)
theorem kw_533 : Cond.fieldLink "SecretRowsModel" 28 "SecretRowsModel" "value" "[I" ∈ gW := kw_t (i := 533) (by decide +kernel) (by decide +kernel)
theorem kw_534 : Cond.fieldLink "SecretRowsModel" 31 "SecretRowsModel" "old" "[I" ∈ gW := kw_t (i := 534) (by decide +kernel) (by decide +kernel)
theorem kw_535 : Cond.fieldLink "SecretRowsModel" 34 "SecretRowsModel" "till" "[I" ∈ gW := kw_t (i := 535) (by decide +kernel) (by decide +kernel)
theorem kw_536 : Cond.fieldLink "SecretRowsModel" 37 "SecretRowsModel" "isRevoked" "[Z" ∈ gW := kw_t (i := 536) (by decide +kernel) (by decide +kernel)
theorem kw_537 : Cond.fieldLink "SecretRowsModel" 41 "SecretRowsModel" "tape" "[I" ∈ gW := kw_t (i := 537) (by decide +kernel) (by decide +kernel)
theorem kw_538 : Cond.fieldLink "SecretRowsModel" 99 "SecretRowsModel" "taped" "I" ∈ gW := kw_t (i := 538) (by decide +kernel) (by decide +kernel)
theorem kw_539 : Cond.fieldLink "SecretRowsModel" 44 "SecretRowsModel" "kept" "[I" ∈ gW := kw_t (i := 539) (by decide +kernel) (by decide +kernel)
theorem kw_540 : Cond.fieldLink "SecretRowsModel" 47 "SecretRowsModel" "text" "[I" ∈ gW := kw_t (i := 540) (by decide +kernel) (by decide +kernel)
theorem kw_541 : Cond.fieldLink "SecretRowsModel" 50 "SecretRowsModel" "size" "[I" ∈ gW := kw_t (i := 541) (by decide +kernel) (by decide +kernel)
theorem kw_542 : Cond.fieldLink "SecretRowsModel" 53 "SecretRowsModel" "at" "[I" ∈ gW := kw_t (i := 542) (by decide +kernel) (by decide +kernel)
theorem kw_543 : Cond.fieldLink "SecretRowsModel" 56 "SecretRowsModel" "told" "[I" ∈ gW := kw_t (i := 543) (by decide +kernel) (by decide +kernel)
theorem kw_544 : Cond.fieldLink "SecretRowsModel" 59 "SecretRowsModel" "toldMany" "[I" ∈ gW := kw_t (i := 544) (by decide +kernel) (by decide +kernel)
theorem kw_545 : Cond.fieldLink "SecretRowsModel" 62 "SecretRowsModel" "covered" "[I" ∈ gW := kw_t (i := 545) (by decide +kernel) (by decide +kernel)
theorem kw_546 : Cond.fieldLink "SecretRowsModel" 65 "SecretRowsModel" "isClosed" "[Z" ∈ gW := kw_t (i := 546) (by decide +kernel) (by decide +kernel)
theorem kw_547 : Cond.fieldLink "SecretRowsModel" 68 "SecretRowsModel" "auditStep" "[I" ∈ gW := kw_t (i := 547) (by decide +kernel) (by decide +kernel)
theorem kw_548 : Cond.fieldLink "SecretRowsModel" 71 "SecretRowsModel" "auditSecret" "[I" ∈ gW := kw_t (i := 548) (by decide +kernel) (by decide +kernel)
theorem kw_549 : Cond.fieldLink "SecretRowsModel" 74 "SecretRowsModel" "auditClock" "[I" ∈ gW := kw_t (i := 549) (by decide +kernel) (by decide +kernel)
theorem kw_550 : Cond.fieldLink "SecretRowsModel" 77 "SecretRowsModel" "tokenSecret" "[I" ∈ gW := kw_t (i := 550) (by decide +kernel) (by decide +kernel)
theorem kw_551 : Cond.fieldLink "SecretRowsModel" 80 "SecretRowsModel" "tokenValue" "[I" ∈ gW := kw_t (i := 551) (by decide +kernel) (by decide +kernel)
theorem kw_552 : Cond.fieldLink "SecretRowsModel" 83 "SecretRowsModel" "tokenEnd" "[I" ∈ gW := kw_t (i := 552) (by decide +kernel) (by decide +kernel)
theorem kw_553 : Cond.fieldLink "SecretRowsModel" 86 "SecretRowsModel" "leakSecret" "I" ∈ gW := kw_t (i := 553) (by decide +kernel) (by decide +kernel)
theorem kw_554 : Cond.fieldLink "SecretRowsModel" 157 "SecretRowsModel" "leakForm" "I" ∈ gW := kw_t (i := 554) (by decide +kernel) (by decide +kernel)
theorem kw_555 : Cond.fieldLink "SecretRowsModel" 160 "SecretRowsModel" "leakOld" "I" ∈ gW := kw_t (i := 555) (by decide +kernel) (by decide +kernel)
theorem kw_556 : Cond.lays "SecretRowsModel" "SecretRowsModel" "code" "I" ∈ gW := kw_t (i := 556) (by decide +kernel) (by decide +kernel)
theorem kw_558 : Cond.lays "SecretRowsModel" "SecretRowsModel" "clock" "I" ∈ gW := kw_t (i := 558) (by decide +kernel) (by decide +kernel)
theorem kw_560 : Cond.lays "SecretRowsModel" "SecretRowsModel" "secrets" "I" ∈ gW := kw_t (i := 560) (by decide +kernel) (by decide +kernel)
theorem kw_562 : Cond.lays "SecretRowsModel" "SecretRowsModel" "valuesMany" "I" ∈ gW := kw_t (i := 562) (by decide +kernel) (by decide +kernel)
theorem kw_564 : Cond.lays "SecretRowsModel" "SecretRowsModel" "steps" "I" ∈ gW := kw_t (i := 564) (by decide +kernel) (by decide +kernel)
theorem kw_566 : Cond.lays "SecretRowsModel" "SecretRowsModel" "tokens" "I" ∈ gW := kw_t (i := 566) (by decide +kernel) (by decide +kernel)
theorem kw_568 : Cond.lays "SecretRowsModel" "SecretRowsModel" "audits" "I" ∈ gW := kw_t (i := 568) (by decide +kernel) (by decide +kernel)
theorem kw_570 : Cond.laysFinal "SecretRowsModel" "SecretRowsModel" "whose" "[I" ∈ gW := kw_t (i := 570) (by decide +kernel) (by decide +kernel)
theorem kw_572 : Cond.laysFinal "SecretRowsModel" "SecretRowsModel" "length" "[I" ∈ gW := kw_t (i := 572) (by decide +kernel) (by decide +kernel)
theorem kw_574 : Cond.laysFinal "SecretRowsModel" "SecretRowsModel" "sign" "[I" ∈ gW := kw_t (i := 574) (by decide +kernel) (by decide +kernel)
theorem kw_576 : Cond.laysFinal "SecretRowsModel" "SecretRowsModel" "environments" "[I" ∈ gW := kw_t (i := 576) (by decide +kernel) (by decide +kernel)
theorem kw_578 : Cond.laysFinal "SecretRowsModel" "SecretRowsModel" "branches" "[I" ∈ gW := kw_t (i := 578) (by decide +kernel) (by decide +kernel)
theorem kw_580 : Cond.laysFinal "SecretRowsModel" "SecretRowsModel" "jobs" "[I" ∈ gW := kw_t (i := 580) (by decide +kernel) (by decide +kernel)
theorem kw_582 : Cond.laysFinal "SecretRowsModel" "SecretRowsModel" "value" "[I" ∈ gW := kw_t (i := 582) (by decide +kernel) (by decide +kernel)
theorem kw_584 : Cond.laysFinal "SecretRowsModel" "SecretRowsModel" "old" "[I" ∈ gW := kw_t (i := 584) (by decide +kernel) (by decide +kernel)
theorem kw_586 : Cond.laysFinal "SecretRowsModel" "SecretRowsModel" "till" "[I" ∈ gW := kw_t (i := 586) (by decide +kernel) (by decide +kernel)
theorem kw_588 : Cond.laysFinal "SecretRowsModel" "SecretRowsModel" "isRevoked" "[Z" ∈ gW := kw_t (i := 588) (by decide +kernel) (by decide +kernel)
theorem kw_590 : Cond.laysFinal "SecretRowsModel" "SecretRowsModel" "tape" "[I" ∈ gW := kw_t (i := 590) (by decide +kernel) (by decide +kernel)
theorem kw_592 : Cond.lays "SecretRowsModel" "SecretRowsModel" "taped" "I" ∈ gW := kw_t (i := 592) (by decide +kernel) (by decide +kernel)
theorem kw_594 : Cond.laysFinal "SecretRowsModel" "SecretRowsModel" "kept" "[I" ∈ gW := kw_t (i := 594) (by decide +kernel) (by decide +kernel)
theorem kw_596 : Cond.laysFinal "SecretRowsModel" "SecretRowsModel" "text" "[I" ∈ gW := kw_t (i := 596) (by decide +kernel) (by decide +kernel)
theorem kw_598 : Cond.laysFinal "SecretRowsModel" "SecretRowsModel" "size" "[I" ∈ gW := kw_t (i := 598) (by decide +kernel) (by decide +kernel)
theorem kw_600 : Cond.laysFinal "SecretRowsModel" "SecretRowsModel" "at" "[I" ∈ gW := kw_t (i := 600) (by decide +kernel) (by decide +kernel)
theorem kw_602 : Cond.laysFinal "SecretRowsModel" "SecretRowsModel" "told" "[I" ∈ gW := kw_t (i := 602) (by decide +kernel) (by decide +kernel)
theorem kw_604 : Cond.laysFinal "SecretRowsModel" "SecretRowsModel" "toldMany" "[I" ∈ gW := kw_t (i := 604) (by decide +kernel) (by decide +kernel)
theorem kw_606 : Cond.laysFinal "SecretRowsModel" "SecretRowsModel" "covered" "[I" ∈ gW := kw_t (i := 606) (by decide +kernel) (by decide +kernel)
theorem kw_608 : Cond.laysFinal "SecretRowsModel" "SecretRowsModel" "isClosed" "[Z" ∈ gW := kw_t (i := 608) (by decide +kernel) (by decide +kernel)
theorem kw_610 : Cond.laysFinal "SecretRowsModel" "SecretRowsModel" "auditStep" "[I" ∈ gW := kw_t (i := 610) (by decide +kernel) (by decide +kernel)
theorem kw_612 : Cond.laysFinal "SecretRowsModel" "SecretRowsModel" "auditSecret" "[I" ∈ gW := kw_t (i := 612) (by decide +kernel) (by decide +kernel)
theorem kw_614 : Cond.laysFinal "SecretRowsModel" "SecretRowsModel" "auditClock" "[I" ∈ gW := kw_t (i := 614) (by decide +kernel) (by decide +kernel)
theorem kw_616 : Cond.laysFinal "SecretRowsModel" "SecretRowsModel" "tokenSecret" "[I" ∈ gW := kw_t (i := 616) (by decide +kernel) (by decide +kernel)
theorem kw_618 : Cond.laysFinal "SecretRowsModel" "SecretRowsModel" "tokenValue" "[I" ∈ gW := kw_t (i := 618) (by decide +kernel) (by decide +kernel)
theorem kw_620 : Cond.laysFinal "SecretRowsModel" "SecretRowsModel" "tokenEnd" "[I" ∈ gW := kw_t (i := 620) (by decide +kernel) (by decide +kernel)
theorem kw_622 : Cond.lays "SecretRowsModel" "SecretRowsModel" "leakSecret" "I" ∈ gW := kw_t (i := 622) (by decide +kernel) (by decide +kernel)
theorem kw_624 : Cond.lays "SecretRowsModel" "SecretRowsModel" "leakForm" "I" ∈ gW := kw_t (i := 624) (by decide +kernel) (by decide +kernel)
theorem kw_626 : Cond.lays "SecretRowsModel" "SecretRowsModel" "leakOld" "I" ∈ gW := kw_t (i := 626) (by decide +kernel) (by decide +kernel)
theorem kw_629 : Cond.arrayClass FieldType.boolean ∈ gW := kw_t (i := 629) (by decide +kernel) (by decide +kernel)
theorem kw_642 : Cond.methodLink "SecretRowsModel" 102 ⟨"SecretRowsModel", "isSecret", "(I)Z"⟩ ∈ gW := kw_t (i := 642) (by decide +kernel) (by decide +kernel)
theorem kw_644 : Cond.instanceMethod ⟨"SecretRowsModel", "isSecret", "(I)Z"⟩ ∈ gW := kw_t (i := 644) (by decide +kernel) (by decide +kernel)
set_option maxRecDepth 100000 in
theorem kw_645 : (Cond.code ⟨"SecretRowsModel", "isSecret", "(I)Z"⟩ prog_11_method_3_code 2 (Option.some FieldType.boolean)) ∈ gW := kw_t (i := 645) rfl rfl
theorem kw_646 : Cond.constant "SecretRowsModel" 106 100000 ∈ gW := kw_t (i := 646) (by decide +kernel) (by decide +kernel)
theorem kw_647 : Cond.methodLink "SecretRowsModel" 107 ⟨"SecretRowsModel", "isTaped", "(II)Z"⟩ ∈ gW := kw_t (i := 647) (by decide +kernel) (by decide +kernel)
theorem kw_649 : Cond.instanceMethod ⟨"SecretRowsModel", "isTaped", "(II)Z"⟩ ∈ gW := kw_t (i := 649) (by decide +kernel) (by decide +kernel)
set_option maxRecDepth 100000 in
theorem kw_650 : (Cond.code ⟨"SecretRowsModel", "isTaped", "(II)Z"⟩ prog_11_method_7_code 5 (Option.some FieldType.boolean)) ∈ gW := kw_t (i := 650) rfl rfl
theorem kw_659 : Cond.constant "SecretRowsModel" 117 1000000000 ∈ gW := kw_t (i := 659) (by decide +kernel) (by decide +kernel)
theorem kw_668 : Cond.methodLink "SecretRowsModel" 121 ⟨"SecretRowsModel", "keptOf", "(II)I"⟩ ∈ gW := kw_t (i := 668) (by decide +kernel) (by decide +kernel)
theorem kw_670 : Cond.instanceMethod ⟨"SecretRowsModel", "keptOf", "(II)I"⟩ ∈ gW := kw_t (i := 670) (by decide +kernel) (by decide +kernel)
set_option maxRecDepth 100000 in
theorem kw_671 : (Cond.code ⟨"SecretRowsModel", "keptOf", "(II)I"⟩ prog_11_method_12_code 3 (Option.some FieldType.int)) ∈ gW := kw_t (i := 671) rfl rfl
theorem kw_672 : Cond.methodLink "SecretRowsModel" 118 ⟨"SecretRowsModel", "isStep", "(I)Z"⟩ ∈ gW := kw_t (i := 672) (by decide +kernel) (by decide +kernel)
theorem kw_674 : Cond.instanceMethod ⟨"SecretRowsModel", "isStep", "(I)Z"⟩ ∈ gW := kw_t (i := 674) (by decide +kernel) (by decide +kernel)
set_option maxRecDepth 100000 in
theorem kw_675 : (Cond.code ⟨"SecretRowsModel", "isStep", "(I)Z"⟩ prog_11_method_4_code 2 (Option.some FieldType.boolean)) ∈ gW := kw_t (i := 675) rfl rfl
theorem kw_688 : Cond.methodLink "SecretRowsModel" 150 ⟨"SecretRowsModel", "cover", "(IZ)V"⟩ ∈ gW := kw_t (i := 688) (by decide +kernel) (by decide +kernel)
theorem kw_690 : Cond.instanceMethod ⟨"SecretRowsModel", "cover", "(IZ)V"⟩ ∈ gW := kw_t (i := 690) (by decide +kernel) (by decide +kernel)
set_option maxRecDepth 100000 in
theorem kw_691 : (Cond.code ⟨"SecretRowsModel", "cover", "(IZ)V"⟩ prog_11_method_22_code 11 (Option.none : Option FieldType)) ∈ gW := kw_t (i := 691) rfl rfl
theorem kw_692 : Cond.methodLink "SecretRowsModel" 139 ⟨"SecretRowsModel", "counts", "(I)Z"⟩ ∈ gW := kw_t (i := 692) (by decide +kernel) (by decide +kernel)
theorem kw_694 : Cond.instanceMethod ⟨"SecretRowsModel", "counts", "(I)Z"⟩ ∈ gW := kw_t (i := 694) (by decide +kernel) (by decide +kernel)
set_option maxRecDepth 100000 in
theorem kw_695 : (Cond.code ⟨"SecretRowsModel", "counts", "(I)Z"⟩ prog_11_method_16_code 3 (Option.some FieldType.boolean)) ∈ gW := kw_t (i := 695) rfl rfl
theorem kw_696 : Cond.methodLink "SecretRowsModel" 142 ⟨"SecretRowsModel", "common", "([IIIII)I"⟩ ∈ gW := kw_t (i := 696) (by decide +kernel) (by decide +kernel)
theorem kw_698 : Cond.instanceMethod ⟨"SecretRowsModel", "common", "([IIIII)I"⟩ ∈ gW := kw_t (i := 698) (by decide +kernel) (by decide +kernel)
set_option maxRecDepth 100000 in
theorem kw_699 : (Cond.code ⟨"SecretRowsModel", "common", "([IIIII)I"⟩ prog_11_method_20_code 7 (Option.some FieldType.int)) ∈ gW := kw_t (i := 699) rfl rfl
theorem kw_700 : Cond.methodLink "SecretRowsModel" 132 ⟨"SecretRowsModel", "formLength", "(II)I"⟩ ∈ gW := kw_t (i := 700) (by decide +kernel) (by decide +kernel)
theorem kw_702 : Cond.instanceMethod ⟨"SecretRowsModel", "formLength", "(II)I"⟩ ∈ gW := kw_t (i := 702) (by decide +kernel) (by decide +kernel)
set_option maxRecDepth 100000 in
theorem kw_703 : (Cond.code ⟨"SecretRowsModel", "formLength", "(II)I"⟩ prog_11_method_17_code 3 (Option.some FieldType.int)) ∈ gW := kw_t (i := 703) rfl rfl
theorem kw_704 : Cond.methodLink "SecretRowsModel" 135 ⟨"SecretRowsModel", "formSign", "(III)I"⟩ ∈ gW := kw_t (i := 704) (by decide +kernel) (by decide +kernel)
theorem kw_706 : Cond.instanceMethod ⟨"SecretRowsModel", "formSign", "(III)I"⟩ ∈ gW := kw_t (i := 706) (by decide +kernel) (by decide +kernel)
set_option maxRecDepth 100000 in
theorem kw_707 : (Cond.code ⟨"SecretRowsModel", "formSign", "(III)I"⟩ prog_11_method_19_code 4 (Option.some FieldType.int)) ∈ gW := kw_t (i := 707) rfl rfl
theorem kw_708 : Cond.methodLink "SecretRowsModel" 128 ⟨"SecretRowsModel", "digit", "(I)I"⟩ ∈ gW := kw_t (i := 708) (by decide +kernel) (by decide +kernel)
theorem kw_709 : Cond.static ⟨"SecretRowsModel", "digit", "(I)I"⟩ ∈ gW := kw_t (i := 709) (by decide +kernel) (by decide +kernel)
set_option maxRecDepth 100000 in
theorem kw_710 : (Cond.code ⟨"SecretRowsModel", "digit", "(I)I"⟩ prog_11_method_18_code 1 (Option.some FieldType.int)) ∈ gW := kw_t (i := 710) rfl rfl
theorem kw_711 : Cond.methodLink "SecretRowsModel" 146 ⟨"SecretRowsModel", "tell", "(II)V"⟩ ∈ gW := kw_t (i := 711) (by decide +kernel) (by decide +kernel)
theorem kw_713 : Cond.instanceMethod ⟨"SecretRowsModel", "tell", "(II)V"⟩ ∈ gW := kw_t (i := 713) (by decide +kernel) (by decide +kernel)
set_option maxRecDepth 100000 in
theorem kw_714 : (Cond.code ⟨"SecretRowsModel", "tell", "(II)V"⟩ prog_11_method_21_code 3 (Option.none : Option FieldType)) ∈ gW := kw_t (i := 714) rfl rfl
theorem ks_Main_findSecret : Cond.selects "SecretRows" ⟨"SecretRows", "findSecret", "(I)LSecretRows$Secret;"⟩ ⟨"SecretRows", "findSecret", "(I)LSecretRows$Secret;"⟩ ∈ gW := ks_t (i := 0) (by decide +kernel) (by decide +kernel)
theorem ks_Main_tapeCanBeValue : Cond.selects "SecretRows" ⟨"SecretRows", "tapeCanBeValue", "()Z"⟩ ⟨"SecretRows", "tapeCanBeValue", "()Z"⟩ ∈ gW := ks_t (i := 2) (by decide +kernel) (by decide +kernel)
theorem ks_Main_tapeIsHad : Cond.selects "SecretRows" ⟨"SecretRows", "tapeIsHad", "()Z"⟩ ⟨"SecretRows", "tapeIsHad", "()Z"⟩ ∈ gW := ks_t (i := 3) (by decide +kernel) (by decide +kernel)
theorem ks_Main_setFromTape : Cond.selects "SecretRows" ⟨"SecretRows", "setFromTape", "(LSecretRows$Secret;I)I"⟩ ⟨"SecretRows", "setFromTape", "(LSecretRows$Secret;I)I"⟩ ∈ gW := ks_t (i := 1) (by decide +kernel) (by decide +kernel)
theorem ks_Main_keepSeen : Cond.selects "SecretRows" ⟨"SecretRows", "keepSeen", "(LSecretRows$Step;III)V"⟩ ⟨"SecretRows", "keepSeen", "(LSecretRows$Step;III)V"⟩ ∈ gW := ks_t (i := 4) (by decide +kernel) (by decide +kernel)
theorem ks_Main_findStep : Cond.selects "SecretRows" ⟨"SecretRows", "findStep", "(I)LSecretRows$Step;"⟩ ⟨"SecretRows", "findStep", "(I)LSecretRows$Step;"⟩ ∈ gW := ks_t (i := 5) (by decide +kernel) (by decide +kernel)
theorem ks_Main_keptValue : Cond.selects "SecretRows" ⟨"SecretRows", "keptValue", "(II)LSecretRows$Value;"⟩ ⟨"SecretRows", "keptValue", "(II)LSecretRows$Value;"⟩ ∈ gW := ks_t (i := 6) (by decide +kernel) (by decide +kernel)
theorem ks_Forms_add : Cond.selects "SecretRows$Forms" ⟨"SecretRows$Forms", "add", "(LSecretRows$Text;III)V"⟩ ⟨"SecretRows$Forms", "add", "(LSecretRows$Text;III)V"⟩ ∈ gW := ks_t (i := 9) (by decide +kernel) (by decide +kernel)
theorem ks_Forms_isThere : Cond.selects "SecretRows$Forms" ⟨"SecretRows$Forms", "isThere", "(I)Z"⟩ ⟨"SecretRows$Forms", "isThere", "(I)Z"⟩ ∈ gW := ks_t (i := 12) (by decide +kernel) (by decide +kernel)
theorem ks_Forms_textOf : Cond.selects "SecretRows$Forms" ⟨"SecretRows$Forms", "textOf", "(I)LSecretRows$Text;"⟩ ⟨"SecretRows$Forms", "textOf", "(I)LSecretRows$Text;"⟩ ∈ gW := ks_t (i := 11) (by decide +kernel) (by decide +kernel)
theorem ks_Log_tellStars : Cond.selects "SecretRows$Log" ⟨"SecretRows$Log", "tellStars", "()V"⟩ ⟨"SecretRows$Log", "tellStars", "()V"⟩ ∈ gW := ks_t (i := 13) (by decide +kernel) (by decide +kernel)
theorem ks_Log_cover : Cond.selects "SecretRows$Log" ⟨"SecretRows$Log", "cover", "(LSecretRows$Forms;Z)V"⟩ ⟨"SecretRows$Log", "cover", "(LSecretRows$Forms;Z)V"⟩ ∈ gW := ks_t (i := 10) (by decide +kernel) (by decide +kernel)
theorem ks_Main_gatherForms : Cond.selects "SecretRows" ⟨"SecretRows", "gatherForms", "()V"⟩ ⟨"SecretRows", "gatherForms", "()V"⟩ ∈ gW := ks_t (i := 8) (by decide +kernel) (by decide +kernel)
theorem ks_Main_logFromTape : Cond.selects "SecretRows" ⟨"SecretRows", "logFromTape", "(LSecretRows$Step;)I"⟩ ⟨"SecretRows", "logFromTape", "(LSecretRows$Step;)I"⟩ ∈ gW := ks_t (i := 7) (by decide +kernel) (by decide +kernel)
theorem ks_Main_rememberLeak : Cond.selects "SecretRows" ⟨"SecretRows", "rememberLeak", "(I)V"⟩ ⟨"SecretRows", "rememberLeak", "(I)V"⟩ ∈ gW := ks_t (i := 14) (by decide +kernel) (by decide +kernel)
theorem ks_Ref_isSecret : Cond.selects "SecretRowsModel" ⟨"SecretRowsModel", "isSecret", "(I)Z"⟩ ⟨"SecretRowsModel", "isSecret", "(I)Z"⟩ ∈ gW := ks_t (i := 15) (by decide +kernel) (by decide +kernel)
theorem ks_Ref_isTaped : Cond.selects "SecretRowsModel" ⟨"SecretRowsModel", "isTaped", "(II)Z"⟩ ⟨"SecretRowsModel", "isTaped", "(II)Z"⟩ ∈ gW := ks_t (i := 16) (by decide +kernel) (by decide +kernel)
theorem ks_Ref_isStep : Cond.selects "SecretRowsModel" ⟨"SecretRowsModel", "isStep", "(I)Z"⟩ ⟨"SecretRowsModel", "isStep", "(I)Z"⟩ ∈ gW := ks_t (i := 18) (by decide +kernel) (by decide +kernel)
theorem ks_Ref_keptOf : Cond.selects "SecretRowsModel" ⟨"SecretRowsModel", "keptOf", "(II)I"⟩ ⟨"SecretRowsModel", "keptOf", "(II)I"⟩ ∈ gW := ks_t (i := 17) (by decide +kernel) (by decide +kernel)
theorem ks_Ref_formLength : Cond.selects "SecretRowsModel" ⟨"SecretRowsModel", "formLength", "(II)I"⟩ ⟨"SecretRowsModel", "formLength", "(II)I"⟩ ∈ gW := ks_t (i := 22) (by decide +kernel) (by decide +kernel)
theorem ks_Ref_formSign : Cond.selects "SecretRowsModel" ⟨"SecretRowsModel", "formSign", "(III)I"⟩ ⟨"SecretRowsModel", "formSign", "(III)I"⟩ ∈ gW := ks_t (i := 23) (by decide +kernel) (by decide +kernel)
theorem ks_Ref_tell : Cond.selects "SecretRowsModel" ⟨"SecretRowsModel", "tell", "(II)V"⟩ ⟨"SecretRowsModel", "tell", "(II)V"⟩ ∈ gW := ks_t (i := 24) (by decide +kernel) (by decide +kernel)
theorem ks_Ref_counts : Cond.selects "SecretRowsModel" ⟨"SecretRowsModel", "counts", "(I)Z"⟩ ⟨"SecretRowsModel", "counts", "(I)Z"⟩ ∈ gW := ks_t (i := 20) (by decide +kernel) (by decide +kernel)
theorem ks_Ref_common : Cond.selects "SecretRowsModel" ⟨"SecretRowsModel", "common", "([IIIII)I"⟩ ⟨"SecretRowsModel", "common", "([IIIII)I"⟩ ∈ gW := ks_t (i := 21) (by decide +kernel) (by decide +kernel)
theorem ks_Ref_cover : Cond.selects "SecretRowsModel" ⟨"SecretRowsModel", "cover", "(IZ)V"⟩ ⟨"SecretRowsModel", "cover", "(IZ)V"⟩ ∈ gW := ks_t (i := 19) (by decide +kernel) (by decide +kernel)
theorem in_Text : ∀ w ∈ u_ws "SecretRows$Text" T_Text 2, w ∈ gW :=
  show ∀ w ∈ ([.laysFinal "SecretRows$Text" "SecretRows$Text" "row" "[C", .lays "SecretRows$Text" "SecretRows$Text" "length" "I"] : List Cond), w ∈ gW from
  List.forall_mem_cons.mpr ⟨kw_51, List.forall_mem_cons.mpr ⟨kw_53, fun _ h => absurd h List.not_mem_nil⟩⟩
theorem in_Value : ∀ w ∈ u_ws "SecretRows$Value" T_Value 4, w ∈ gW :=
  show ∀ w ∈ ([.laysFinal "SecretRows$Value" "SecretRows$Value" "number" "I", .laysFinal "SecretRows$Value" "SecretRows$Value" "text" "LSecretRows$Text;", .laysFinal "SecretRows$Value" "SecretRows$Value" "fromTheEnd" "LSecretRows$Text;", .laysFinal "SecretRows$Value" "SecretRows$Value" "byCodes" "LSecretRows$Text;"] : List Cond), w ∈ gW from
  List.forall_mem_cons.mpr ⟨kw_249, List.forall_mem_cons.mpr ⟨kw_251, List.forall_mem_cons.mpr ⟨kw_253, List.forall_mem_cons.mpr ⟨kw_255, fun _ h => absurd h List.not_mem_nil⟩⟩⟩⟩
theorem in_Secret : ∀ w ∈ u_ws "SecretRows$Secret" T_Secret 7, w ∈ gW :=
  show ∀ w ∈ ([.laysFinal "SecretRows$Secret" "SecretRows$Secret" "environments" "I", .laysFinal "SecretRows$Secret" "SecretRows$Secret" "branches" "I", .laysFinal "SecretRows$Secret" "SecretRows$Secret" "jobs" "I", .lays "SecretRows$Secret" "SecretRows$Secret" "value" "LSecretRows$Value;", .lays "SecretRows$Secret" "SecretRows$Secret" "old" "LSecretRows$Value;", .lays "SecretRows$Secret" "SecretRows$Secret" "oldEnd" "I", .lays "SecretRows$Secret" "SecretRows$Secret" "revoked" "Z"] : List Cond), w ∈ gW from
  List.forall_mem_cons.mpr ⟨kw_143, List.forall_mem_cons.mpr ⟨kw_145, List.forall_mem_cons.mpr ⟨kw_147, List.forall_mem_cons.mpr ⟨kw_149, List.forall_mem_cons.mpr ⟨kw_151, List.forall_mem_cons.mpr ⟨kw_153, List.forall_mem_cons.mpr ⟨kw_155, fun _ h => absurd h List.not_mem_nil⟩⟩⟩⟩⟩⟩⟩
theorem in_Log : ∀ w ∈ u_ws "SecretRows$Log" T_Log 5, w ∈ gW :=
  show ∀ w ∈ ([.laysFinal "SecretRows$Log" "SecretRows$Log" "came" "LSecretRows$Text;", .laysFinal "SecretRows$Log" "SecretRows$Log" "told" "LSecretRows$Text;", .lays "SecretRows$Log" "SecretRows$Log" "done" "I", .lays "SecretRows$Log" "SecretRows$Log" "covered" "I", .lays "SecretRows$Log" "SecretRows$Log" "closed" "Z"] : List Cond), w ∈ gW from
  List.forall_mem_cons.mpr ⟨kw_305, List.forall_mem_cons.mpr ⟨kw_307, List.forall_mem_cons.mpr ⟨kw_309, List.forall_mem_cons.mpr ⟨kw_311, List.forall_mem_cons.mpr ⟨kw_313, fun _ h => absurd h List.not_mem_nil⟩⟩⟩⟩⟩
theorem in_Step : ∀ w ∈ u_ws "SecretRows$Step" T_Step 2, w ∈ gW :=
  show ∀ w ∈ ([.laysFinal "SecretRows$Step" "SecretRows$Step" "kept" "[LSecretRows$Value;", .laysFinal "SecretRows$Step" "SecretRows$Step" "log" "LSecretRows$Log;"] : List Cond), w ∈ gW from
  List.forall_mem_cons.mpr ⟨kw_319, List.forall_mem_cons.mpr ⟨kw_321, fun _ h => absurd h List.not_mem_nil⟩⟩
theorem in_Token : ∀ w ∈ u_ws "SecretRows$Token" T_Token 3, w ∈ gW :=
  show ∀ w ∈ ([.laysFinal "SecretRows$Token" "SecretRows$Token" "secret" "I", .laysFinal "SecretRows$Token" "SecretRows$Token" "value" "LSecretRows$Value;", .laysFinal "SecretRows$Token" "SecretRows$Token" "end" "I"] : List Cond), w ∈ gW from
  List.forall_mem_cons.mpr ⟨kw_474, List.forall_mem_cons.mpr ⟨kw_476, List.forall_mem_cons.mpr ⟨kw_478, fun _ h => absurd h List.not_mem_nil⟩⟩⟩
theorem in_Audit : ∀ w ∈ u_ws "SecretRows$Audit" T_Audit 2, w ∈ gW :=
  show ∀ w ∈ ([.laysFinal "SecretRows$Audit" "SecretRows$Audit" "cells" "[I", .lays "SecretRows$Audit" "SecretRows$Audit" "rows" "I"] : List Cond), w ∈ gW from
  List.forall_mem_cons.mpr ⟨kw_34, List.forall_mem_cons.mpr ⟨kw_36, fun _ h => absurd h List.not_mem_nil⟩⟩
theorem in_Forms : ∀ w ∈ u_ws "SecretRows$Forms" T_Forms 5, w ∈ gW :=
  show ∀ w ∈ ([.laysFinal "SecretRows$Forms" "SecretRows$Forms" "texts" "[LSecretRows$Text;", .laysFinal "SecretRows$Forms" "SecretRows$Forms" "owners" "[I", .laysFinal "SecretRows$Forms" "SecretRows$Forms" "kinds" "[I", .laysFinal "SecretRows$Forms" "SecretRows$Forms" "olds" "[I", .lays "SecretRows$Forms" "SecretRows$Forms" "count" "I"] : List Cond), w ∈ gW from
  List.forall_mem_cons.mpr ⟨kw_70, List.forall_mem_cons.mpr ⟨kw_72, List.forall_mem_cons.mpr ⟨kw_74, List.forall_mem_cons.mpr ⟨kw_76, List.forall_mem_cons.mpr ⟨kw_78, fun _ h => absurd h List.not_mem_nil⟩⟩⟩⟩⟩
theorem in_Main : ∀ w ∈ u_ws "SecretRows" T_Main 14, w ∈ gW :=
  show ∀ w ∈ ([.laysFinal "SecretRows" "SecretRows" "secrets" "[LSecretRows$Secret;", .laysFinal "SecretRows" "SecretRows" "steps" "[LSecretRows$Step;", .laysFinal "SecretRows" "SecretRows" "tokens" "[LSecretRows$Token;", .laysFinal "SecretRows" "SecretRows" "readings" "LSecretRows$Audit;", .laysFinal "SecretRows" "SecretRows" "tape" "LSecretRows$Text;", .laysFinal "SecretRows" "SecretRows" "forms" "LSecretRows$Forms;", .lays "SecretRows" "SecretRows" "secretCount" "I", .lays "SecretRows" "SecretRows" "stepCount" "I", .lays "SecretRows" "SecretRows" "tokenCount" "I", .lays "SecretRows" "SecretRows" "valueCount" "I", .lays "SecretRows" "SecretRows" "clock" "I", .lays "SecretRows" "SecretRows" "leakSecret" "I", .lays "SecretRows" "SecretRows" "leakForm" "I", .lays "SecretRows" "SecretRows" "leakOld" "I"] : List Cond), w ∈ gW from
  List.forall_mem_cons.mpr ⟨kw_95, List.forall_mem_cons.mpr ⟨kw_97, List.forall_mem_cons.mpr ⟨kw_99, List.forall_mem_cons.mpr ⟨kw_101, List.forall_mem_cons.mpr ⟨kw_103, List.forall_mem_cons.mpr ⟨kw_105, List.forall_mem_cons.mpr ⟨kw_107, List.forall_mem_cons.mpr ⟨kw_109, List.forall_mem_cons.mpr ⟨kw_111, List.forall_mem_cons.mpr ⟨kw_113, List.forall_mem_cons.mpr ⟨kw_115, List.forall_mem_cons.mpr ⟨kw_117, List.forall_mem_cons.mpr ⟨kw_119, List.forall_mem_cons.mpr ⟨kw_121, fun _ h => absurd h List.not_mem_nil⟩⟩⟩⟩⟩⟩⟩⟩⟩⟩⟩⟩⟩⟩
theorem in_Ref : ∀ w ∈ u_ws "SecretRowsModel" T_Ref 36, w ∈ gW :=
  show ∀ w ∈ ([.lays "SecretRowsModel" "SecretRowsModel" "code" "I", .lays "SecretRowsModel" "SecretRowsModel" "clock" "I", .lays "SecretRowsModel" "SecretRowsModel" "secrets" "I", .lays "SecretRowsModel" "SecretRowsModel" "valuesMany" "I", .lays "SecretRowsModel" "SecretRowsModel" "steps" "I", .lays "SecretRowsModel" "SecretRowsModel" "tokens" "I", .lays "SecretRowsModel" "SecretRowsModel" "audits" "I", .laysFinal "SecretRowsModel" "SecretRowsModel" "whose" "[I", .laysFinal "SecretRowsModel" "SecretRowsModel" "length" "[I", .laysFinal "SecretRowsModel" "SecretRowsModel" "sign" "[I", .laysFinal "SecretRowsModel" "SecretRowsModel" "environments" "[I", .laysFinal "SecretRowsModel" "SecretRowsModel" "branches" "[I", .laysFinal "SecretRowsModel" "SecretRowsModel" "jobs" "[I", .laysFinal "SecretRowsModel" "SecretRowsModel" "value" "[I", .laysFinal "SecretRowsModel" "SecretRowsModel" "old" "[I", .laysFinal "SecretRowsModel" "SecretRowsModel" "till" "[I", .laysFinal "SecretRowsModel" "SecretRowsModel" "isRevoked" "[Z", .laysFinal "SecretRowsModel" "SecretRowsModel" "tape" "[I", .lays "SecretRowsModel" "SecretRowsModel" "taped" "I", .laysFinal "SecretRowsModel" "SecretRowsModel" "kept" "[I", .laysFinal "SecretRowsModel" "SecretRowsModel" "text" "[I", .laysFinal "SecretRowsModel" "SecretRowsModel" "size" "[I", .laysFinal "SecretRowsModel" "SecretRowsModel" "at" "[I", .laysFinal "SecretRowsModel" "SecretRowsModel" "told" "[I", .laysFinal "SecretRowsModel" "SecretRowsModel" "toldMany" "[I", .laysFinal "SecretRowsModel" "SecretRowsModel" "covered" "[I", .laysFinal "SecretRowsModel" "SecretRowsModel" "isClosed" "[Z", .laysFinal "SecretRowsModel" "SecretRowsModel" "auditStep" "[I", .laysFinal "SecretRowsModel" "SecretRowsModel" "auditSecret" "[I", .laysFinal "SecretRowsModel" "SecretRowsModel" "auditClock" "[I", .laysFinal "SecretRowsModel" "SecretRowsModel" "tokenSecret" "[I", .laysFinal "SecretRowsModel" "SecretRowsModel" "tokenValue" "[I", .laysFinal "SecretRowsModel" "SecretRowsModel" "tokenEnd" "[I", .lays "SecretRowsModel" "SecretRowsModel" "leakSecret" "I", .lays "SecretRowsModel" "SecretRowsModel" "leakForm" "I", .lays "SecretRowsModel" "SecretRowsModel" "leakOld" "I"] : List Cond), w ∈ gW from
  List.forall_mem_cons.mpr ⟨kw_556, List.forall_mem_cons.mpr ⟨kw_558, List.forall_mem_cons.mpr ⟨kw_560, List.forall_mem_cons.mpr ⟨kw_562, List.forall_mem_cons.mpr ⟨kw_564, List.forall_mem_cons.mpr ⟨kw_566, List.forall_mem_cons.mpr ⟨kw_568, List.forall_mem_cons.mpr ⟨kw_570, List.forall_mem_cons.mpr ⟨kw_572, List.forall_mem_cons.mpr ⟨kw_574, List.forall_mem_cons.mpr ⟨kw_576, List.forall_mem_cons.mpr ⟨kw_578, List.forall_mem_cons.mpr ⟨kw_580, List.forall_mem_cons.mpr ⟨kw_582, List.forall_mem_cons.mpr ⟨kw_584, List.forall_mem_cons.mpr ⟨kw_586, List.forall_mem_cons.mpr ⟨kw_588, List.forall_mem_cons.mpr ⟨kw_590, List.forall_mem_cons.mpr ⟨kw_592, List.forall_mem_cons.mpr ⟨kw_594, List.forall_mem_cons.mpr ⟨kw_596, List.forall_mem_cons.mpr ⟨kw_598, List.forall_mem_cons.mpr ⟨kw_600, List.forall_mem_cons.mpr ⟨kw_602, List.forall_mem_cons.mpr ⟨kw_604, List.forall_mem_cons.mpr ⟨kw_606, List.forall_mem_cons.mpr ⟨kw_608, List.forall_mem_cons.mpr ⟨kw_610, List.forall_mem_cons.mpr ⟨kw_612, List.forall_mem_cons.mpr ⟨kw_614, List.forall_mem_cons.mpr ⟨kw_616, List.forall_mem_cons.mpr ⟨kw_618, List.forall_mem_cons.mpr ⟨kw_620, List.forall_mem_cons.mpr ⟨kw_622, List.forall_mem_cons.mpr ⟨kw_624, List.forall_mem_cons.mpr ⟨kw_626, fun _ h => absurd h List.not_mem_nil⟩⟩⟩⟩⟩⟩⟩⟩⟩⟩⟩⟩⟩⟩⟩⟩⟩⟩⟩⟩⟩⟩⟩⟩⟩⟩⟩⟩⟩⟩⟩⟩⟩⟩⟩⟩
end
section
theorem dAudit_init_0 : decode cAudit_init 0 = .ok (.aload_n 0, 1) := by decide +kernel
theorem dAudit_init_1 : decode cAudit_init 1 = .ok (.invokespecial 3, 3) := by decide +kernel
theorem dAudit_init_4 : decode cAudit_init 4 = .ok (.aload_n 0, 1) := by decide +kernel
theorem dAudit_init_5 : decode cAudit_init 5 = .ok (.sipush 600, 3) := by decide +kernel
theorem dAudit_init_8 : decode cAudit_init 8 = .ok (.newarray .int, 2) := by decide +kernel
theorem dAudit_init_10 : decode cAudit_init 10 = .ok (.putfield 9, 3) := by decide +kernel
theorem dAudit_init_13 : decode cAudit_init 13 = .ok (.return_, 1) := by decide +kernel
theorem dText_init_0 : decode cText_init 0 = .ok (.aload_n 0, 1) := by decide +kernel
theorem dText_init_1 : decode cText_init 1 = .ok (.invokespecial 3, 3) := by decide +kernel
theorem dText_init_4 : decode cText_init 4 = .ok (.aload_n 0, 1) := by decide +kernel
theorem dText_init_5 : decode cText_init 5 = .ok (.iload_n 1, 1) := by decide +kernel
theorem dText_init_6 : decode cText_init 6 = .ok (.iconst 0, 1) := by decide +kernel
theorem dText_init_7 : decode cText_init 7 = .ok (.invokestatic 9, 3) := by decide +kernel
theorem dText_init_10 : decode cText_init 10 = .ok (.newarray .char, 2) := by decide +kernel
theorem dText_init_12 : decode cText_init 12 = .ok (.putfield 15, 3) := by decide +kernel
theorem dText_init_15 : decode cText_init 15 = .ok (.return_, 1) := by decide +kernel
theorem dForms_init_0 : decode cForms_init 0 = .ok (.aload_n 0, 1) := by decide +kernel
theorem dForms_init_1 : decode cForms_init 1 = .ok (.invokespecial 3, 3) := by decide +kernel
theorem dForms_init_4 : decode cForms_init 4 = .ok (.aload_n 0, 1) := by decide +kernel
theorem dForms_init_5 : decode cForms_init 5 = .ok (.bipush 60, 2) := by decide +kernel
theorem dForms_init_7 : decode cForms_init 7 = .ok (.anewarray 9, 3) := by decide +kernel
theorem dForms_init_10 : decode cForms_init 10 = .ok (.putfield 11, 3) := by decide +kernel
theorem dForms_init_13 : decode cForms_init 13 = .ok (.aload_n 0, 1) := by decide +kernel
theorem dForms_init_14 : decode cForms_init 14 = .ok (.bipush 60, 2) := by decide +kernel
theorem dForms_init_16 : decode cForms_init 16 = .ok (.newarray .int, 2) := by decide +kernel
theorem dForms_init_18 : decode cForms_init 18 = .ok (.putfield 17, 3) := by decide +kernel
theorem dForms_init_21 : decode cForms_init 21 = .ok (.aload_n 0, 1) := by decide +kernel
theorem dForms_init_22 : decode cForms_init 22 = .ok (.bipush 60, 2) := by decide +kernel
theorem dForms_init_24 : decode cForms_init 24 = .ok (.newarray .int, 2) := by decide +kernel
theorem dForms_init_26 : decode cForms_init 26 = .ok (.putfield 21, 3) := by decide +kernel
theorem dForms_init_29 : decode cForms_init 29 = .ok (.aload_n 0, 1) := by decide +kernel
theorem dForms_init_30 : decode cForms_init 30 = .ok (.bipush 60, 2) := by decide +kernel
theorem dForms_init_32 : decode cForms_init 32 = .ok (.newarray .int, 2) := by decide +kernel
theorem dForms_init_34 : decode cForms_init 34 = .ok (.putfield 24, 3) := by decide +kernel
theorem dForms_init_37 : decode cForms_init 37 = .ok (.return_, 1) := by decide +kernel
theorem dMain_init_0 : decode cMain_init 0 = .ok (.aload_n 0, 1) := by decide +kernel
theorem dMain_init_1 : decode cMain_init 1 = .ok (.invokespecial 3, 3) := by decide +kernel
theorem dMain_init_4 : decode cMain_init 4 = .ok (.aload_n 0, 1) := by decide +kernel
theorem dMain_init_5 : decode cMain_init 5 = .ok (.bipush 10, 2) := by decide +kernel
theorem dMain_init_7 : decode cMain_init 7 = .ok (.anewarray 9, 3) := by decide +kernel
theorem dMain_init_10 : decode cMain_init 10 = .ok (.putfield 11, 3) := by decide +kernel
theorem dMain_init_13 : decode cMain_init 13 = .ok (.aload_n 0, 1) := by decide +kernel
theorem dMain_init_14 : decode cMain_init 14 = .ok (.bipush 12, 2) := by decide +kernel
theorem dMain_init_16 : decode cMain_init 16 = .ok (.anewarray 15, 3) := by decide +kernel
theorem dMain_init_19 : decode cMain_init 19 = .ok (.putfield 17, 3) := by decide +kernel
theorem dMain_init_22 : decode cMain_init 22 = .ok (.aload_n 0, 1) := by decide +kernel
theorem dMain_init_23 : decode cMain_init 23 = .ok (.bipush 20, 2) := by decide +kernel
theorem dMain_init_25 : decode cMain_init 25 = .ok (.anewarray 21, 3) := by decide +kernel
theorem dMain_init_28 : decode cMain_init 28 = .ok (.putfield 23, 3) := by decide +kernel
theorem dMain_init_31 : decode cMain_init 31 = .ok (.aload_n 0, 1) := by decide +kernel
theorem dMain_init_32 : decode cMain_init 32 = .ok (.new 27, 3) := by decide +kernel
theorem dMain_init_35 : decode cMain_init 35 = .ok (.dup, 1) := by decide +kernel
theorem dMain_init_36 : decode cMain_init 36 = .ok (.invokespecial 29, 3) := by decide +kernel
theorem dMain_init_39 : decode cMain_init 39 = .ok (.putfield 30, 3) := by decide +kernel
theorem dMain_init_42 : decode cMain_init 42 = .ok (.aload_n 0, 1) := by decide +kernel
theorem dMain_init_43 : decode cMain_init 43 = .ok (.new 34, 3) := by decide +kernel
theorem dMain_init_46 : decode cMain_init 46 = .ok (.dup, 1) := by decide +kernel
theorem dMain_init_47 : decode cMain_init 47 = .ok (.sipush 300, 3) := by decide +kernel
theorem dMain_init_50 : decode cMain_init 50 = .ok (.invokespecial 36, 3) := by decide +kernel
theorem dMain_init_53 : decode cMain_init 53 = .ok (.putfield 39, 3) := by decide +kernel
theorem dMain_init_56 : decode cMain_init 56 = .ok (.aload_n 0, 1) := by decide +kernel
theorem dMain_init_57 : decode cMain_init 57 = .ok (.new 43, 3) := by decide +kernel
theorem dMain_init_60 : decode cMain_init 60 = .ok (.dup, 1) := by decide +kernel
theorem dMain_init_61 : decode cMain_init 61 = .ok (.invokespecial 45, 3) := by decide +kernel
theorem dMain_init_64 : decode cMain_init 64 = .ok (.putfield 46, 3) := by decide +kernel
theorem dMain_init_67 : decode cMain_init 67 = .ok (.aload_n 0, 1) := by decide +kernel
theorem dMain_init_68 : decode cMain_init 68 = .ok (.iconst (-1), 1) := by decide +kernel
theorem dMain_init_69 : decode cMain_init 69 = .ok (.putfield 50, 3) := by decide +kernel
theorem dMain_init_72 : decode cMain_init 72 = .ok (.aload_n 0, 1) := by decide +kernel
theorem dMain_init_73 : decode cMain_init 73 = .ok (.iconst (-1), 1) := by decide +kernel
theorem dMain_init_74 : decode cMain_init 74 = .ok (.putfield 54, 3) := by decide +kernel
theorem dMain_init_77 : decode cMain_init 77 = .ok (.aload_n 0, 1) := by decide +kernel
theorem dMain_init_78 : decode cMain_init 78 = .ok (.iconst (-1), 1) := by decide +kernel
theorem dMain_init_79 : decode cMain_init 79 = .ok (.putfield 57, 3) := by decide +kernel
theorem dMain_init_82 : decode cMain_init 82 = .ok (.return_, 1) := by decide +kernel
theorem dSecret_init_0 : decode cSecret_init 0 = .ok (.aload_n 0, 1) := by decide +kernel
theorem dSecret_init_1 : decode cSecret_init 1 = .ok (.invokespecial 1, 3) := by decide +kernel
theorem dSecret_init_4 : decode cSecret_init 4 = .ok (.aload_n 0, 1) := by decide +kernel
theorem dSecret_init_5 : decode cSecret_init 5 = .ok (.iload_n 1, 1) := by decide +kernel
theorem dSecret_init_6 : decode cSecret_init 6 = .ok (.putfield 7, 3) := by decide +kernel
theorem dSecret_init_9 : decode cSecret_init 9 = .ok (.aload_n 0, 1) := by decide +kernel
theorem dSecret_init_10 : decode cSecret_init 10 = .ok (.iload_n 2, 1) := by decide +kernel
theorem dSecret_init_11 : decode cSecret_init 11 = .ok (.putfield 13, 3) := by decide +kernel
theorem dSecret_init_14 : decode cSecret_init 14 = .ok (.aload_n 0, 1) := by decide +kernel
theorem dSecret_init_15 : decode cSecret_init 15 = .ok (.iload_n 3, 1) := by decide +kernel
theorem dSecret_init_16 : decode cSecret_init 16 = .ok (.putfield 16, 3) := by decide +kernel
theorem dSecret_init_19 : decode cSecret_init 19 = .ok (.return_, 1) := by decide +kernel
theorem dMain_secret_0 : decode cMain_secret 0 = .ok (.aload_n 0, 1) := by decide +kernel
theorem dMain_secret_1 : decode cMain_secret 1 = .ok (.getfield 60, 3) := by decide +kernel
theorem dMain_secret_4 : decode cMain_secret 4 = .ok (.aload_n 0, 1) := by decide +kernel
theorem dMain_secret_5 : decode cMain_secret 5 = .ok (.getfield 11, 3) := by decide +kernel
theorem dMain_secret_8 : decode cMain_secret 8 = .ok (.arraylength, 1) := by decide +kernel
theorem dMain_secret_9 : decode cMain_secret 9 = .ok (.if_icmp .lt 5, 3) := by decide +kernel
theorem dMain_secret_12 : decode cMain_secret 12 = .ok (.iconst (-1), 1) := by decide +kernel
theorem dMain_secret_13 : decode cMain_secret 13 = .ok (.ireturn, 1) := by decide +kernel
theorem dMain_secret_14 : decode cMain_secret 14 = .ok (.aload_n 0, 1) := by decide +kernel
theorem dMain_secret_15 : decode cMain_secret 15 = .ok (.getfield 11, 3) := by decide +kernel
theorem dMain_secret_18 : decode cMain_secret 18 = .ok (.aload_n 0, 1) := by decide +kernel
theorem dMain_secret_19 : decode cMain_secret 19 = .ok (.getfield 60, 3) := by decide +kernel
theorem dMain_secret_22 : decode cMain_secret 22 = .ok (.new 9, 3) := by decide +kernel
theorem dMain_secret_25 : decode cMain_secret 25 = .ok (.dup, 1) := by decide +kernel
theorem dMain_secret_26 : decode cMain_secret 26 = .ok (.iload_n 1, 1) := by decide +kernel
theorem dMain_secret_27 : decode cMain_secret 27 = .ok (.iload_n 2, 1) := by decide +kernel
theorem dMain_secret_28 : decode cMain_secret 28 = .ok (.iload_n 3, 1) := by decide +kernel
theorem dMain_secret_29 : decode cMain_secret 29 = .ok (.invokespecial 63, 3) := by decide +kernel
theorem dMain_secret_32 : decode cMain_secret 32 = .ok (.aastore, 1) := by decide +kernel
theorem dMain_secret_33 : decode cMain_secret 33 = .ok (.aload_n 0, 1) := by decide +kernel
theorem dMain_secret_34 : decode cMain_secret 34 = .ok (.dup, 1) := by decide +kernel
theorem dMain_secret_35 : decode cMain_secret 35 = .ok (.getfield 60, 3) := by decide +kernel
theorem dMain_secret_38 : decode cMain_secret 38 = .ok (.iconst 1, 1) := by decide +kernel
theorem dMain_secret_39 : decode cMain_secret 39 = .ok (.iadd, 1) := by decide +kernel
theorem dMain_secret_40 : decode cMain_secret 40 = .ok (.putfield 60, 3) := by decide +kernel
theorem dMain_secret_43 : decode cMain_secret 43 = .ok (.aload_n 0, 1) := by decide +kernel
theorem dMain_secret_44 : decode cMain_secret 44 = .ok (.getfield 60, 3) := by decide +kernel
theorem dMain_secret_47 : decode cMain_secret 47 = .ok (.iconst 1, 1) := by decide +kernel
theorem dMain_secret_48 : decode cMain_secret 48 = .ok (.isub, 1) := by decide +kernel
theorem dMain_secret_49 : decode cMain_secret 49 = .ok (.ireturn, 1) := by decide +kernel
theorem dText_add_0 : decode cText_add 0 = .ok (.aload_n 0, 1) := by decide +kernel
theorem dText_add_1 : decode cText_add 1 = .ok (.getfield 21, 3) := by decide +kernel
theorem dText_add_4 : decode cText_add 4 = .ok (.aload_n 0, 1) := by decide +kernel
theorem dText_add_5 : decode cText_add 5 = .ok (.getfield 15, 3) := by decide +kernel
theorem dText_add_8 : decode cText_add 8 = .ok (.arraylength, 1) := by decide +kernel
theorem dText_add_9 : decode cText_add 9 = .ok (.if_icmp .lt 5, 3) := by decide +kernel
theorem dText_add_12 : decode cText_add 12 = .ok (.iconst 0, 1) := by decide +kernel
theorem dText_add_13 : decode cText_add 13 = .ok (.ireturn, 1) := by decide +kernel
theorem dText_add_14 : decode cText_add 14 = .ok (.aload_n 0, 1) := by decide +kernel
theorem dText_add_15 : decode cText_add 15 = .ok (.getfield 15, 3) := by decide +kernel
theorem dText_add_18 : decode cText_add 18 = .ok (.aload_n 0, 1) := by decide +kernel
theorem dText_add_19 : decode cText_add 19 = .ok (.getfield 21, 3) := by decide +kernel
theorem dText_add_22 : decode cText_add 22 = .ok (.iload_n 1, 1) := by decide +kernel
theorem dText_add_23 : decode cText_add 23 = .ok (.i2c, 1) := by decide +kernel
theorem dText_add_24 : decode cText_add 24 = .ok (.castore, 1) := by decide +kernel
theorem dText_add_25 : decode cText_add 25 = .ok (.aload_n 0, 1) := by decide +kernel
theorem dText_add_26 : decode cText_add 26 = .ok (.dup, 1) := by decide +kernel
theorem dText_add_27 : decode cText_add 27 = .ok (.getfield 21, 3) := by decide +kernel
theorem dText_add_30 : decode cText_add 30 = .ok (.iconst 1, 1) := by decide +kernel
theorem dText_add_31 : decode cText_add 31 = .ok (.iadd, 1) := by decide +kernel
theorem dText_add_32 : decode cText_add 32 = .ok (.putfield 21, 3) := by decide +kernel
theorem dText_add_35 : decode cText_add 35 = .ok (.iconst 1, 1) := by decide +kernel
theorem dText_add_36 : decode cText_add 36 = .ok (.ireturn, 1) := by decide +kernel
theorem dMain_type_0 : decode cMain_type 0 = .ok (.iload_n 1, 1) := by decide +kernel
theorem dMain_type_1 : decode cMain_type 1 = .ok (.bipush 32, 2) := by decide +kernel
theorem dMain_type_3 : decode cMain_type 3 = .ok (.if_icmp .lt 24, 3) := by decide +kernel
theorem dMain_type_6 : decode cMain_type 6 = .ok (.iload_n 1, 1) := by decide +kernel
theorem dMain_type_7 : decode cMain_type 7 = .ok (.bipush 126, 2) := by decide +kernel
theorem dMain_type_9 : decode cMain_type 9 = .ok (.if_icmp .gt 18, 3) := by decide +kernel
theorem dMain_type_12 : decode cMain_type 12 = .ok (.aload_n 0, 1) := by decide +kernel
theorem dMain_type_13 : decode cMain_type 13 = .ok (.getfield 39, 3) := by decide +kernel
theorem dMain_type_16 : decode cMain_type 16 = .ok (.iload_n 1, 1) := by decide +kernel
theorem dMain_type_17 : decode cMain_type 17 = .ok (.invokevirtual 66, 3) := by decide +kernel
theorem dMain_type_20 : decode cMain_type 20 = .ok (.ifCond .eq 7, 3) := by decide +kernel
theorem dMain_type_23 : decode cMain_type 23 = .ok (.iconst 1, 1) := by decide +kernel
theorem dMain_type_24 : decode cMain_type 24 = .ok (.goto 4, 3) := by decide +kernel
theorem dMain_type_27 : decode cMain_type 27 = .ok (.iconst 0, 1) := by decide +kernel
theorem dMain_type_28 : decode cMain_type 28 = .ok (.ireturn, 1) := by decide +kernel
theorem dMain_findSecret_0 : decode cMain_findSecret 0 = .ok (.iload_n 1, 1) := by decide +kernel
theorem dMain_findSecret_1 : decode cMain_findSecret 1 = .ok (.ifCond .lt 20, 3) := by decide +kernel
theorem dMain_findSecret_4 : decode cMain_findSecret 4 = .ok (.iload_n 1, 1) := by decide +kernel
theorem dMain_findSecret_5 : decode cMain_findSecret 5 = .ok (.aload_n 0, 1) := by decide +kernel
theorem dMain_findSecret_6 : decode cMain_findSecret 6 = .ok (.getfield 60, 3) := by decide +kernel
theorem dMain_findSecret_9 : decode cMain_findSecret 9 = .ok (.if_icmp .ge 12, 3) := by decide +kernel
theorem dMain_findSecret_12 : decode cMain_findSecret 12 = .ok (.iload_n 1, 1) := by decide +kernel
theorem dMain_findSecret_13 : decode cMain_findSecret 13 = .ok (.aload_n 0, 1) := by decide +kernel
theorem dMain_findSecret_14 : decode cMain_findSecret 14 = .ok (.getfield 11, 3) := by decide +kernel
theorem dMain_findSecret_17 : decode cMain_findSecret 17 = .ok (.arraylength, 1) := by decide +kernel
theorem dMain_findSecret_18 : decode cMain_findSecret 18 = .ok (.if_icmp .lt 7, 3) := by decide +kernel
theorem dMain_findSecret_21 : decode cMain_findSecret 21 = .ok (.aconst_null, 1) := by decide +kernel
theorem dMain_findSecret_22 : decode cMain_findSecret 22 = .ok (.goto 9, 3) := by decide +kernel
theorem dMain_findSecret_25 : decode cMain_findSecret 25 = .ok (.aload_n 0, 1) := by decide +kernel
theorem dMain_findSecret_26 : decode cMain_findSecret 26 = .ok (.getfield 11, 3) := by decide +kernel
theorem dMain_findSecret_29 : decode cMain_findSecret 29 = .ok (.iload_n 1, 1) := by decide +kernel
theorem dMain_findSecret_30 : decode cMain_findSecret 30 = .ok (.aaload, 1) := by decide +kernel
theorem dMain_findSecret_31 : decode cMain_findSecret 31 = .ok (.areturn, 1) := by decide +kernel
theorem dText_length_0 : decode cText_length 0 = .ok (.aload_n 0, 1) := by decide +kernel
theorem dText_length_1 : decode cText_length 1 = .ok (.getfield 21, 3) := by decide +kernel
theorem dText_length_4 : decode cText_length 4 = .ok (.ireturn, 1) := by decide +kernel
theorem dText_at_0 : decode cText_at 0 = .ok (.iload_n 1, 1) := by decide +kernel
theorem dText_at_1 : decode cText_at 1 = .ok (.ifCond .lt 20, 3) := by decide +kernel
theorem dText_at_4 : decode cText_at 4 = .ok (.iload_n 1, 1) := by decide +kernel
theorem dText_at_5 : decode cText_at 5 = .ok (.aload_n 0, 1) := by decide +kernel
theorem dText_at_6 : decode cText_at 6 = .ok (.getfield 21, 3) := by decide +kernel
theorem dText_at_9 : decode cText_at 9 = .ok (.if_icmp .ge 12, 3) := by decide +kernel
theorem dText_at_12 : decode cText_at 12 = .ok (.iload_n 1, 1) := by decide +kernel
theorem dText_at_13 : decode cText_at 13 = .ok (.aload_n 0, 1) := by decide +kernel
theorem dText_at_14 : decode cText_at 14 = .ok (.getfield 15, 3) := by decide +kernel
theorem dText_at_17 : decode cText_at 17 = .ok (.arraylength, 1) := by decide +kernel
theorem dText_at_18 : decode cText_at 18 = .ok (.if_icmp .lt 7, 3) := by decide +kernel
theorem dText_at_21 : decode cText_at 21 = .ok (.iconst (-1), 1) := by decide +kernel
theorem dText_at_22 : decode cText_at 22 = .ok (.goto 9, 3) := by decide +kernel
theorem dText_at_25 : decode cText_at 25 = .ok (.aload_n 0, 1) := by decide +kernel
theorem dText_at_26 : decode cText_at 26 = .ok (.getfield 15, 3) := by decide +kernel
theorem dText_at_29 : decode cText_at 29 = .ok (.iload_n 1, 1) := by decide +kernel
theorem dText_at_30 : decode cText_at 30 = .ok (.caload, 1) := by decide +kernel
theorem dText_at_31 : decode cText_at 31 = .ok (.ireturn, 1) := by decide +kernel
theorem dText_has_0 : decode cText_has 0 = .ok (.iconst 0, 1) := by decide +kernel
theorem dText_has_1 : decode cText_has 1 = .ok (.istore_n 2, 1) := by decide +kernel
theorem dText_has_2 : decode cText_has 2 = .ok (.iload_n 2, 1) := by decide +kernel
theorem dText_has_3 : decode cText_has 3 = .ok (.aload_n 0, 1) := by decide +kernel
theorem dText_has_4 : decode cText_has 4 = .ok (.getfield 21, 3) := by decide +kernel
theorem dText_has_7 : decode cText_has 7 = .ok (.if_icmp .ge 20, 3) := by decide +kernel
theorem dText_has_10 : decode cText_has 10 = .ok (.aload_n 0, 1) := by decide +kernel
theorem dText_has_11 : decode cText_has 11 = .ok (.iload_n 2, 1) := by decide +kernel
theorem dText_has_12 : decode cText_has 12 = .ok (.invokevirtual 25, 3) := by decide +kernel
theorem dText_has_15 : decode cText_has 15 = .ok (.iload_n 1, 1) := by decide +kernel
theorem dText_has_16 : decode cText_has 16 = .ok (.if_icmp .ne 5, 3) := by decide +kernel
theorem dText_has_19 : decode cText_has 19 = .ok (.iconst 1, 1) := by decide +kernel
theorem dText_has_20 : decode cText_has 20 = .ok (.ireturn, 1) := by decide +kernel
theorem dText_has_21 : decode cText_has 21 = .ok (.iinc 2 1, 3) := by decide +kernel
theorem dText_has_24 : decode cText_has 24 = .ok (.goto (-22), 3) := by decide +kernel
theorem dText_has_27 : decode cText_has 27 = .ok (.iconst 0, 1) := by decide +kernel
theorem dText_has_28 : decode cText_has 28 = .ok (.ireturn, 1) := by decide +kernel
theorem dMain_tapeCanBeValue_0 : decode cMain_tapeCanBeValue 0 = .ok (.aload_n 0, 1) := by decide +kernel
theorem dMain_tapeCanBeValue_1 : decode cMain_tapeCanBeValue 1 = .ok (.getfield 39, 3) := by decide +kernel
theorem dMain_tapeCanBeValue_4 : decode cMain_tapeCanBeValue 4 = .ok (.invokevirtual 151, 3) := by decide +kernel
theorem dMain_tapeCanBeValue_7 : decode cMain_tapeCanBeValue 7 = .ok (.iconst 4, 1) := by decide +kernel
theorem dMain_tapeCanBeValue_8 : decode cMain_tapeCanBeValue 8 = .ok (.if_icmp .lt 31, 3) := by decide +kernel
theorem dMain_tapeCanBeValue_11 : decode cMain_tapeCanBeValue 11 = .ok (.aload_n 0, 1) := by decide +kernel
theorem dMain_tapeCanBeValue_12 : decode cMain_tapeCanBeValue 12 = .ok (.getfield 39, 3) := by decide +kernel
theorem dMain_tapeCanBeValue_15 : decode cMain_tapeCanBeValue 15 = .ok (.invokevirtual 151, 3) := by decide +kernel
theorem dMain_tapeCanBeValue_18 : decode cMain_tapeCanBeValue 18 = .ok (.bipush 12, 2) := by decide +kernel
theorem dMain_tapeCanBeValue_20 : decode cMain_tapeCanBeValue 20 = .ok (.if_icmp .gt 19, 3) := by decide +kernel
theorem dMain_tapeCanBeValue_23 : decode cMain_tapeCanBeValue 23 = .ok (.aload_n 0, 1) := by decide +kernel
theorem dMain_tapeCanBeValue_24 : decode cMain_tapeCanBeValue 24 = .ok (.getfield 39, 3) := by decide +kernel
theorem dMain_tapeCanBeValue_27 : decode cMain_tapeCanBeValue 27 = .ok (.bipush 32, 2) := by decide +kernel
theorem dMain_tapeCanBeValue_29 : decode cMain_tapeCanBeValue 29 = .ok (.invokevirtual 215, 3) := by decide +kernel
theorem dMain_tapeCanBeValue_32 : decode cMain_tapeCanBeValue 32 = .ok (.ifCond .ne 7, 3) := by decide +kernel
theorem dMain_tapeCanBeValue_35 : decode cMain_tapeCanBeValue 35 = .ok (.iconst 1, 1) := by decide +kernel
theorem dMain_tapeCanBeValue_36 : decode cMain_tapeCanBeValue 36 = .ok (.goto 4, 3) := by decide +kernel
theorem dMain_tapeCanBeValue_39 : decode cMain_tapeCanBeValue 39 = .ok (.iconst 0, 1) := by decide +kernel
theorem dMain_tapeCanBeValue_40 : decode cMain_tapeCanBeValue 40 = .ok (.ireturn, 1) := by decide +kernel
theorem dText_agrees_0 : decode cText_agrees 0 = .ok (.aload_n 0, 1) := by decide +kernel
theorem dText_agrees_1 : decode cText_agrees 1 = .ok (.getfield 21, 3) := by decide +kernel
theorem dText_agrees_4 : decode cText_agrees 4 = .ok (.aload_n 1, 1) := by decide +kernel
theorem dText_agrees_5 : decode cText_agrees 5 = .ok (.getfield 21, 3) := by decide +kernel
theorem dText_agrees_8 : decode cText_agrees 8 = .ok (.iload_n 2, 1) := by decide +kernel
theorem dText_agrees_9 : decode cText_agrees 9 = .ok (.isub, 1) := by decide +kernel
theorem dText_agrees_10 : decode cText_agrees 10 = .ok (.invokestatic 37, 3) := by decide +kernel
theorem dText_agrees_13 : decode cText_agrees 13 = .ok (.istore_n 3, 1) := by decide +kernel
theorem dText_agrees_14 : decode cText_agrees 14 = .ok (.iconst 0, 1) := by decide +kernel
theorem dText_agrees_15 : decode cText_agrees 15 = .ok (.istore 4, 2) := by decide +kernel
theorem dText_agrees_17 : decode cText_agrees 17 = .ok (.iload 4, 2) := by decide +kernel
theorem dText_agrees_19 : decode cText_agrees 19 = .ok (.iload_n 3, 1) := by decide +kernel
theorem dText_agrees_20 : decode cText_agrees 20 = .ok (.if_icmp .ge 28, 3) := by decide +kernel
theorem dText_agrees_23 : decode cText_agrees 23 = .ok (.aload_n 0, 1) := by decide +kernel
theorem dText_agrees_24 : decode cText_agrees 24 = .ok (.iload 4, 2) := by decide +kernel
theorem dText_agrees_26 : decode cText_agrees 26 = .ok (.invokevirtual 25, 3) := by decide +kernel
theorem dText_agrees_29 : decode cText_agrees 29 = .ok (.aload_n 1, 1) := by decide +kernel
theorem dText_agrees_30 : decode cText_agrees 30 = .ok (.iload_n 2, 1) := by decide +kernel
theorem dText_agrees_31 : decode cText_agrees 31 = .ok (.iload 4, 2) := by decide +kernel
theorem dText_agrees_33 : decode cText_agrees 33 = .ok (.iadd, 1) := by decide +kernel
theorem dText_agrees_34 : decode cText_agrees 34 = .ok (.invokevirtual 25, 3) := by decide +kernel
theorem dText_agrees_37 : decode cText_agrees 37 = .ok (.if_icmp .eq 5, 3) := by decide +kernel
theorem dText_agrees_40 : decode cText_agrees 40 = .ok (.iconst 0, 1) := by decide +kernel
theorem dText_agrees_41 : decode cText_agrees 41 = .ok (.ireturn, 1) := by decide +kernel
theorem dText_agrees_42 : decode cText_agrees 42 = .ok (.iinc 4 1, 3) := by decide +kernel
theorem dText_agrees_45 : decode cText_agrees 45 = .ok (.goto (-28), 3) := by decide +kernel
theorem dText_agrees_48 : decode cText_agrees 48 = .ok (.iconst 1, 1) := by decide +kernel
theorem dText_agrees_49 : decode cText_agrees 49 = .ok (.ireturn, 1) := by decide +kernel
def fAudit_init (n : Nat) (a0 : Nat) (z : gS) : Option (gS) :=
g_bp (g_nwI z .int 600 600) fun a_1 z_2 =>
(g_pF z_2 a0 6 0 (.ref a_1)).bind fun z_3 =>
some z_3
set_option maxHeartbeats 4000000 in
set_option maxRecDepth 100000 in
theorem mAudit_init (l : Launch) (D : va_G) (A : Nat → Prop) (n : Nat) (z z' : gS) (a0 : Nat) (hf : fAudit_init n a0 z = some z') : Met l yAudit_init wsAudit_init ({ frames := 1, cells := 1, slots := 600, locals := 12 }) (g_P D vwCl gNN gOO A z [.ref a0]) (g_Qv D vwCl A z') 1 600 A := by
  refine Met.ofW (cc := cAudit_init) (maxL := 1) (ret := none) (by decide) rfl ?_
  intro p e s m args below meth c s₁ B hml hv
  obtain ⟨rfl, hW, hK, hA0⟩ := hv
  have hin : meth.name = "<init>" := (name_of_methodNamed B.named B.method).1
  have C : g_C p s m meth c _ cAudit_init 1 none "SecretRows$Audit" gW D vwCl gNN gOO A := ⟨B.exec, B.bytes, B.returns, hml, findClass_of_methodNamed B.named, fun w hw => atoms_spec (ws := wsAudit_init) B.pre w (List.mem_cons_of_mem _ hw), B.notSynchronized, hK, fun q hq => hA0 q (by rw [← hW.1]; exact hq)⟩
  have hS : va_S A s.heap s.heap [] := va_S.rf
  have hl := lv_entry ([.ref a0]) (n := 1) (Nat.le_of_ble_eq_true rfl)
  rw [lg_entry_eq]
  generalize (lg_sl ([.ref a0]) ++ List.replicate (1 - (lg_sl ([.ref a0])).length) Slot.unset).toArray = ls at hl ⊢
  have hl : lv_has ls 1 [(0, .ref a0)] := hl
  obtain ⟨hx, hb, hr, hml, hown, hts, hlocks, hK, hA⟩ := id C
  unfold fAudit_init at hf
  refine lv_aload_n hx hb dAudit_init_0 rfl (lv_at hl 0 rfl) ?_
  refine W.objInit hx hb hown (hts _ kw_31) (hts _ kw_18) (hts _ kw_19) rfl (by rw [hml]; exact hl.1) rfl dAudit_init_1 (Nat.le_of_ble_eq_true rfl) (Nat.le_of_ble_eq_true rfl) ?_
  refine W.eq (g2 := F0 m 4 _ []) rfl ?_
  refine lv_aload_n hx hb dAudit_init_4 rfl (lv_at hl 0 rfl) ?_
  refine lv_sipush (v := 600) hx hb dAudit_init_5 (by decide) ?_
  replace hf := g_bps hf
  obtain ⟨a_1, z_2, hz_2, hf⟩ := hf
  refine g_newI (atype := .int) hx hb (hts _ kw_39) rfl rfl hW hS hA (B := 600) (Nat.le_of_ble_eq_true rfl) (Nat.le_of_ble_eq_true rfl) (Nat.le_of_ble_eq_true rfl) hz_2 dAudit_init_8 (fun H hW hS => ?_)
  refine W.cs (cells' := 1) (slots' := 600) rfl rfl ?_
  replace hf := g_bd hf
  obtain ⟨z_3, hz_3, hf⟩ := hf
  refine g_putF hx hb hts in_Audit ty_Audit tyok_Audit nm_Audit hown hK hW hS (ci := 6) (C := "SecretRows$Audit") (T := T_Audit) (N := 2) rfl (k := 0) (by decide) (hts _ kw_32) (fun _ h9 => h9) rfl hin rfl (ty := (.array .int)) (by decide +kernel) rfl rfl hz_3 dAudit_init_10 (fun H locs hW hS => ?_)
  cases hf
  exact g_retv hx hb hr hlocks hW hS (Nat.le_of_ble_eq_true rfl) (Nat.le_of_ble_eq_true rfl) dAudit_init_13

def fText_init (n : Nat) (a0 : Nat) (i1 : Int32) (z : gS) : Option (gS) :=
g_bp (g_nwI z .char (if i1 < 0 then 0 else i1) 300) fun a_1 z_2 =>
(g_pF z_2 a0 0 0 (.ref a_1)).bind fun z_3 =>
some z_3
set_option maxHeartbeats 4000000 in
set_option maxRecDepth 100000 in
theorem mText_init (l : Launch) (D : va_G) (A : Nat → Prop) (n : Nat) (z z' : gS) (a0 : Nat) (i1 : Int32) (hf : fText_init n a0 i1 z = some z') : Met l yText_init wsText_init ({ frames := 1, cells := 1, slots := 300, locals := 15 }) (g_P D vwCl gNN gOO A z [.ref a0, .int i1]) (g_Qv D vwCl A z') 1 300 A := by
  refine Met.ofW (cc := cText_init) (maxL := 2) (ret := none) (by decide) rfl ?_
  intro p e s m args below meth c s₁ B hml hv
  obtain ⟨rfl, hW, hK, hA0⟩ := hv
  have hin : meth.name = "<init>" := (name_of_methodNamed B.named B.method).1
  have C : g_C p s m meth c _ cText_init 2 none "SecretRows$Text" gW D vwCl gNN gOO A := ⟨B.exec, B.bytes, B.returns, hml, findClass_of_methodNamed B.named, fun w hw => atoms_spec (ws := wsText_init) B.pre w (List.mem_cons_of_mem _ hw), B.notSynchronized, hK, fun q hq => hA0 q (by rw [← hW.1]; exact hq)⟩
  have hS : va_S A s.heap s.heap [] := va_S.rf
  have hl := lv_entry ([.ref a0, .int i1]) (n := 2) (Nat.le_of_ble_eq_true rfl)
  rw [lg_entry_eq]
  generalize (lg_sl ([.ref a0, .int i1]) ++ List.replicate (2 - (lg_sl ([.ref a0, .int i1])).length) Slot.unset).toArray = ls at hl ⊢
  have hl : lv_has ls 2 [(0, .ref a0), (1, .int i1)] := hl
  obtain ⟨hx, hb, hr, hml, hown, hts, hlocks, hK, hA⟩ := id C
  unfold fText_init at hf
  refine lv_aload_n hx hb dText_init_0 rfl (lv_at hl 0 rfl) ?_
  refine W.objInit hx hb hown (hts _ kw_45) (hts _ kw_18) (hts _ kw_19) rfl (by rw [hml]; exact hl.1) rfl dText_init_1 (Nat.le_of_ble_eq_true rfl) (Nat.le_of_ble_eq_true rfl) ?_
  refine W.eq (g2 := F0 m 4 _ []) rfl ?_
  refine lv_aload_n hx hb dText_init_4 rfl (lv_at hl 0 rfl) ?_
  refine lv_iload_n hx hb dText_init_5 rfl (lv_at hl 1 rfl) ?_
  refine lv_iconst (v := 0) hx hb dText_init_6 (by decide) ?_
  refine va_mmax hx hb (by rw [hml]; exact hl.1.symm) hown (hts _ kw_46) (hts _ kw_47) (hts _ kw_4) (hts _ kw_48) (Nat.le_of_ble_eq_true rfl) (Nat.le_of_ble_eq_true rfl) (Nat.le_of_ble_eq_true rfl) (Nat.le_of_ble_eq_true rfl) dText_init_7 ?_
  replace hf := g_bps hf
  obtain ⟨a_1, z_2, hz_2, hf⟩ := hf
  refine g_newI (atype := .char) hx hb (hts _ kw_56) rfl rfl hW hS hA (B := 300) (Nat.le_of_ble_eq_true rfl) (Nat.le_of_ble_eq_true rfl) (Nat.le_of_ble_eq_true rfl) hz_2 dText_init_10 (fun H hW hS => ?_)
  refine W.cs (cells' := 1) (slots' := 300) rfl rfl ?_
  replace hf := g_bd hf
  obtain ⟨z_3, hz_3, hf⟩ := hf
  refine g_putF hx hb hts in_Text ty_Text tyok_Text nm_Text hown hK hW hS (ci := 0) (C := "SecretRows$Text") (T := T_Text) (N := 2) rfl (k := 0) (by decide) (hts _ kw_49) (fun _ h9 => h9) rfl hin rfl (ty := (.array .char)) (by decide +kernel) rfl rfl hz_3 dText_init_12 (fun H locs hW hS => ?_)
  cases hf
  exact g_retv hx hb hr hlocks hW hS (Nat.le_of_ble_eq_true rfl) (Nat.le_of_ble_eq_true rfl) dText_init_15

def fForms_init (n : Nat) (a0 : Nat) (z : gS) : Option (gS) :=
g_bp (g_nwR z (.object "SecretRows$Text") 60 60) fun a_1 z_2 =>
(g_pF z_2 a0 7 0 (.ref a_1)).bind fun z_3 =>
g_bp (g_nwI z_3 .int 60 60) fun a_4 z_5 =>
(g_pF z_5 a0 7 1 (.ref a_4)).bind fun z_6 =>
g_bp (g_nwI z_6 .int 60 60) fun a_7 z_8 =>
(g_pF z_8 a0 7 2 (.ref a_7)).bind fun z_9 =>
g_bp (g_nwI z_9 .int 60 60) fun a_10 z_11 =>
(g_pF z_11 a0 7 3 (.ref a_10)).bind fun z_12 =>
some z_12
set_option maxHeartbeats 4000000 in
set_option maxRecDepth 100000 in
theorem mForms_init (l : Launch) (D : va_G) (A : Nat → Prop) (n : Nat) (z z' : gS) (a0 : Nat) (hf : fForms_init n a0 z = some z') : Met l yForms_init wsForms_init ({ frames := 1, cells := 4, slots := 240, locals := 12 }) (g_P D vwCl gNN gOO A z [.ref a0]) (g_Qv D vwCl A z') 4 240 A := by
  refine Met.ofW (cc := cForms_init) (maxL := 1) (ret := none) (by decide) rfl ?_
  intro p e s m args below meth c s₁ B hml hv
  obtain ⟨rfl, hW, hK, hA0⟩ := hv
  have hin : meth.name = "<init>" := (name_of_methodNamed B.named B.method).1
  have C : g_C p s m meth c _ cForms_init 1 none "SecretRows$Forms" gW D vwCl gNN gOO A := ⟨B.exec, B.bytes, B.returns, hml, findClass_of_methodNamed B.named, fun w hw => atoms_spec (ws := wsForms_init) B.pre w (List.mem_cons_of_mem _ hw), B.notSynchronized, hK, fun q hq => hA0 q (by rw [← hW.1]; exact hq)⟩
  have hS : va_S A s.heap s.heap [] := va_S.rf
  have hl := lv_entry ([.ref a0]) (n := 1) (Nat.le_of_ble_eq_true rfl)
  rw [lg_entry_eq]
  generalize (lg_sl ([.ref a0]) ++ List.replicate (1 - (lg_sl ([.ref a0])).length) Slot.unset).toArray = ls at hl ⊢
  have hl : lv_has ls 1 [(0, .ref a0)] := hl
  obtain ⟨hx, hb, hr, hml, hown, hts, hlocks, hK, hA⟩ := id C
  unfold fForms_init at hf
  refine lv_aload_n hx hb dForms_init_0 rfl (lv_at hl 0 rfl) ?_
  refine W.objInit hx hb hown (hts _ kw_62) (hts _ kw_18) (hts _ kw_19) rfl (by rw [hml]; exact hl.1) rfl dForms_init_1 (Nat.le_of_ble_eq_true rfl) (Nat.le_of_ble_eq_true rfl) ?_
  refine W.eq (g2 := F0 m 4 _ []) rfl ?_
  refine lv_aload_n hx hb dForms_init_4 rfl (lv_at hl 0 rfl) ?_
  refine lv_bipush (v := 60) hx hb dForms_init_5 (by decide) ?_
  replace hf := g_bps hf
  obtain ⟨a_1, z_2, hz_2, hf⟩ := hf
  refine g_newR hx hb hown (hts _ kw_63) hK (by decide +kernel) hW hS hA (B := 60) (Nat.le_of_ble_eq_true rfl) (Nat.le_of_ble_eq_true rfl) (Nat.le_of_ble_eq_true rfl) hz_2 dForms_init_7 (fun H hW hS => ?_)
  refine W.cs (cells' := 1) (slots' := 60) rfl rfl ?_
  replace hf := g_bd hf
  obtain ⟨z_3, hz_3, hf⟩ := hf
  refine g_putF hx hb hts in_Forms ty_Forms tyok_Forms nm_Forms hown hK hW hS (ci := 7) (C := "SecretRows$Forms") (T := T_Forms) (N := 5) rfl (k := 0) (by decide) (hts _ kw_65) (fun _ h9 => h9) rfl hin rfl (ty := (.array (.object "SecretRows$Text"))) (by decide +kernel) rfl rfl hz_3 dForms_init_10 (fun H locs hW hS => ?_)
  refine lv_aload_n hx hb dForms_init_13 rfl (lv_at hl 0 rfl) ?_
  refine lv_bipush (v := 60) hx hb dForms_init_14 (by decide) ?_
  replace hf := g_bps hf
  obtain ⟨a_4, z_5, hz_5, hf⟩ := hf
  refine g_newI (atype := .int) hx hb (hts _ kw_39) rfl rfl hW hS hA (B := 60) (Nat.le_of_ble_eq_true rfl) (Nat.le_of_ble_eq_true rfl) (Nat.le_of_ble_eq_true rfl) hz_5 dForms_init_16 (fun H hW hS => ?_)
  refine W.cs (cells' := 2) (slots' := 120) rfl rfl ?_
  replace hf := g_bd hf
  obtain ⟨z_6, hz_6, hf⟩ := hf
  refine g_putF hx hb hts in_Forms ty_Forms tyok_Forms nm_Forms hown hK hW hS (ci := 7) (C := "SecretRows$Forms") (T := T_Forms) (N := 5) rfl (k := 1) (by decide) (hts _ kw_66) (fun _ h9 => h9) rfl hin rfl (ty := (.array .int)) (by decide +kernel) rfl rfl hz_6 dForms_init_18 (fun H locs hW hS => ?_)
  refine lv_aload_n hx hb dForms_init_21 rfl (lv_at hl 0 rfl) ?_
  refine lv_bipush (v := 60) hx hb dForms_init_22 (by decide) ?_
  replace hf := g_bps hf
  obtain ⟨a_7, z_8, hz_8, hf⟩ := hf
  refine g_newI (atype := .int) hx hb (hts _ kw_39) rfl rfl hW hS hA (B := 60) (Nat.le_of_ble_eq_true rfl) (Nat.le_of_ble_eq_true rfl) (Nat.le_of_ble_eq_true rfl) hz_8 dForms_init_24 (fun H hW hS => ?_)
  refine W.cs (cells' := 3) (slots' := 180) rfl rfl ?_
  replace hf := g_bd hf
  obtain ⟨z_9, hz_9, hf⟩ := hf
  refine g_putF hx hb hts in_Forms ty_Forms tyok_Forms nm_Forms hown hK hW hS (ci := 7) (C := "SecretRows$Forms") (T := T_Forms) (N := 5) rfl (k := 2) (by decide) (hts _ kw_67) (fun _ h9 => h9) rfl hin rfl (ty := (.array .int)) (by decide +kernel) rfl rfl hz_9 dForms_init_26 (fun H locs hW hS => ?_)
  refine lv_aload_n hx hb dForms_init_29 rfl (lv_at hl 0 rfl) ?_
  refine lv_bipush (v := 60) hx hb dForms_init_30 (by decide) ?_
  replace hf := g_bps hf
  obtain ⟨a_10, z_11, hz_11, hf⟩ := hf
  refine g_newI (atype := .int) hx hb (hts _ kw_39) rfl rfl hW hS hA (B := 60) (Nat.le_of_ble_eq_true rfl) (Nat.le_of_ble_eq_true rfl) (Nat.le_of_ble_eq_true rfl) hz_11 dForms_init_32 (fun H hW hS => ?_)
  refine W.cs (cells' := 4) (slots' := 240) rfl rfl ?_
  replace hf := g_bd hf
  obtain ⟨z_12, hz_12, hf⟩ := hf
  refine g_putF hx hb hts in_Forms ty_Forms tyok_Forms nm_Forms hown hK hW hS (ci := 7) (C := "SecretRows$Forms") (T := T_Forms) (N := 5) rfl (k := 3) (by decide) (hts _ kw_68) (fun _ h9 => h9) rfl hin rfl (ty := (.array .int)) (by decide +kernel) rfl rfl hz_12 dForms_init_34 (fun H locs hW hS => ?_)
  cases hf
  exact g_retv hx hb hr hlocks hW hS (Nat.le_of_ble_eq_true rfl) (Nat.le_of_ble_eq_true rfl) dForms_init_37

def fMain_init (n : Nat) (a0 : Nat) (z : gS) : Option (gS) :=
g_bp (g_nwR z (.object "SecretRows$Secret") 10 10) fun a_1 z_2 =>
(g_pF z_2 a0 8 0 (.ref a_1)).bind fun z_3 =>
g_bp (g_nwR z_3 (.object "SecretRows$Step") 12 12) fun a_4 z_5 =>
(g_pF z_5 a0 8 1 (.ref a_4)).bind fun z_6 =>
g_bp (g_nwR z_6 (.object "SecretRows$Token") 20 20) fun a_7 z_8 =>
(g_pF z_8 a0 8 2 (.ref a_7)).bind fun z_9 =>
g_bp (g_nwO z_9 6 [.null, .int 0]) fun a_10 z_11 =>
(fAudit_init n a_10 z_11).bind fun z_12 =>
(g_pF z_12 a0 8 3 (.ref a_10)).bind fun z_13 =>
g_bp (g_nwO z_13 0 [.null, .int 0]) fun a_14 z_15 =>
(fText_init n a_14 300 z_15).bind fun z_16 =>
(g_pF z_16 a0 8 4 (.ref a_14)).bind fun z_17 =>
g_bp (g_nwO z_17 7 [.null, .null, .null, .null, .int 0]) fun a_18 z_19 =>
(fForms_init n a_18 z_19).bind fun z_20 =>
(g_pF z_20 a0 8 5 (.ref a_18)).bind fun z_21 =>
(g_pF z_21 a0 8 11 (.int (-1))).bind fun z_22 =>
(g_pF z_22 a0 8 12 (.int (-1))).bind fun z_23 =>
(g_pF z_23 a0 8 13 (.int (-1))).bind fun z_24 =>
some z_24
set_option maxHeartbeats 4000000 in
set_option maxRecDepth 100000 in
theorem mMain_init (l : Launch) (D : va_G) (A : Nat → Prop) (n : Nat) (z z' : gS) (a0 : Nat) (hf : fMain_init n a0 z = some z') : Met l yMain_init wsMain_init ({ frames := 2, cells := 12, slots := 1191, locals := 36 }) (g_P D vwCl gNN gOO A z [.ref a0]) (g_Qv D vwCl A z') 12 1191 A := by
  refine Met.ofW (cc := cMain_init) (maxL := 1) (ret := none) (by decide) rfl ?_
  intro p e s m args below meth c s₁ B hml hv
  obtain ⟨rfl, hW, hK, hA0⟩ := hv
  have hin : meth.name = "<init>" := (name_of_methodNamed B.named B.method).1
  have C : g_C p s m meth c _ cMain_init 1 none "SecretRows" gW D vwCl gNN gOO A := ⟨B.exec, B.bytes, B.returns, hml, findClass_of_methodNamed B.named, fun w hw => atoms_spec (ws := wsMain_init) B.pre w (List.mem_cons_of_mem _ hw), B.notSynchronized, hK, fun q hq => hA0 q (by rw [← hW.1]; exact hq)⟩
  have hS : va_S A s.heap s.heap [] := va_S.rf
  have hl := lv_entry ([.ref a0]) (n := 1) (Nat.le_of_ble_eq_true rfl)
  rw [lg_entry_eq]
  generalize (lg_sl ([.ref a0]) ++ List.replicate (1 - (lg_sl ([.ref a0])).length) Slot.unset).toArray = ls at hl ⊢
  have hl : lv_has ls 1 [(0, .ref a0)] := hl
  obtain ⟨hx, hb, hr, hml, hown, hts, hlocks, hK, hA⟩ := id C
  unfold fMain_init at hf
  refine lv_aload_n hx hb dMain_init_0 rfl (lv_at hl 0 rfl) ?_
  refine W.objInit hx hb hown (hts _ kw_17) (hts _ kw_18) (hts _ kw_19) rfl (by rw [hml]; exact hl.1) rfl dMain_init_1 (Nat.le_of_ble_eq_true rfl) (Nat.le_of_ble_eq_true rfl) ?_
  refine W.eq (g2 := F0 m 4 _ []) rfl ?_
  refine lv_aload_n hx hb dMain_init_4 rfl (lv_at hl 0 rfl) ?_
  refine lv_bipush (v := 10) hx hb dMain_init_5 (by decide) ?_
  replace hf := g_bps hf
  obtain ⟨a_1, z_2, hz_2, hf⟩ := hf
  refine g_newR hx hb hown (hts _ kw_20) hK (by decide +kernel) hW hS hA (B := 10) (Nat.le_of_ble_eq_true rfl) (Nat.le_of_ble_eq_true rfl) (Nat.le_of_ble_eq_true rfl) hz_2 dMain_init_7 (fun H hW hS => ?_)
  refine W.cs (cells' := 1) (slots' := 10) rfl rfl ?_
  replace hf := g_bd hf
  obtain ⟨z_3, hz_3, hf⟩ := hf
  refine g_putF hx hb hts in_Main ty_Main tyok_Main nm_Main hown hK hW hS (ci := 8) (C := "SecretRows") (T := T_Main) (N := 14) rfl (k := 0) (by decide) (hts _ kw_81) (fun _ h9 => h9) rfl hin rfl (ty := (.array (.object "SecretRows$Secret"))) (by decide +kernel) rfl rfl hz_3 dMain_init_10 (fun H locs hW hS => ?_)
  refine lv_aload_n hx hb dMain_init_13 rfl (lv_at hl 0 rfl) ?_
  refine lv_bipush (v := 12) hx hb dMain_init_14 (by decide) ?_
  replace hf := g_bps hf
  obtain ⟨a_4, z_5, hz_5, hf⟩ := hf
  refine g_newR hx hb hown (hts _ kw_22) hK (by decide +kernel) hW hS hA (B := 12) (Nat.le_of_ble_eq_true rfl) (Nat.le_of_ble_eq_true rfl) (Nat.le_of_ble_eq_true rfl) hz_5 dMain_init_16 (fun H hW hS => ?_)
  refine W.cs (cells' := 2) (slots' := 22) rfl rfl ?_
  replace hf := g_bd hf
  obtain ⟨z_6, hz_6, hf⟩ := hf
  refine g_putF hx hb hts in_Main ty_Main tyok_Main nm_Main hown hK hW hS (ci := 8) (C := "SecretRows") (T := T_Main) (N := 14) rfl (k := 1) (by decide) (hts _ kw_82) (fun _ h9 => h9) rfl hin rfl (ty := (.array (.object "SecretRows$Step"))) (by decide +kernel) rfl rfl hz_6 dMain_init_19 (fun H locs hW hS => ?_)
  refine lv_aload_n hx hb dMain_init_22 rfl (lv_at hl 0 rfl) ?_
  refine lv_bipush (v := 20) hx hb dMain_init_23 (by decide) ?_
  replace hf := g_bps hf
  obtain ⟨a_7, z_8, hz_8, hf⟩ := hf
  refine g_newR hx hb hown (hts _ kw_24) hK (by decide +kernel) hW hS hA (B := 20) (Nat.le_of_ble_eq_true rfl) (Nat.le_of_ble_eq_true rfl) (Nat.le_of_ble_eq_true rfl) hz_8 dMain_init_25 (fun H hW hS => ?_)
  refine W.cs (cells' := 3) (slots' := 42) rfl rfl ?_
  replace hf := g_bd hf
  obtain ⟨z_9, hz_9, hf⟩ := hf
  refine g_putF hx hb hts in_Main ty_Main tyok_Main nm_Main hown hK hW hS (ci := 8) (C := "SecretRows") (T := T_Main) (N := 14) rfl (k := 2) (by decide) (hts _ kw_83) (fun _ h9 => h9) rfl hin rfl (ty := (.array (.object "SecretRows$Token"))) (by decide +kernel) rfl rfl hz_9 dMain_init_28 (fun H locs hW hS => ?_)
  refine lv_aload_n hx hb dMain_init_31 rfl (lv_at hl 0 rfl) ?_
  replace hf := g_bps hf
  obtain ⟨a_10, z_11, hz_11, hf⟩ := hf
  refine g_newO hx hb hts in_Audit ty_Audit tyok_Audit hown (hts _ kw_26) (hts _ kw_27) (hts _ kw_2) hK hW hS hA (ci := 6) (C := "SecretRows$Audit") (T := T_Audit) (N := 2) rfl (fun j hj => by rcases (show j = 0 ∨ j = 1 by omega) with rfl | rfl <;> rfl) (Nat.le_of_ble_eq_true rfl) (Nat.le_of_ble_eq_true rfl) hz_11 dMain_init_32 (fun H hW hS => ?_)
  refine W.cs (cells' := 4) (slots' := 44) rfl rfl ?_
  refine lv_dup hx hb dMain_init_35 rfl ?_
  replace hf := g_bd hf
  obtain ⟨z_12, hz_12, hf⟩ := hf
  refine g_gov (g_rI (As := []) (rest := [.ref a_10, .ref a0]) ⟨hx, hb, hml, hown, hts⟩ (mAudit_init l D A n _ _ a_10 hz_12) (cwI 0 hts (gi_I kw_30) rfl rfl rfl (hts _ kw_2) (hts _ kw_28) (hts _ kw_29) rfl hdAudit_init ⟨Nat.le_of_ble_eq_true rfl, Nat.le_of_ble_eq_true rfl⟩) hK hW hS hA rfl hl.1 rfl (Nat.le_of_ble_eq_true rfl) dMain_init_36 ⟨Nat.le_of_ble_eq_true rfl, Nat.le_of_ble_eq_true rfl⟩) hS (fun H locs hW hS => ?_)
  refine W.cs (cells' := 5) (slots' := 644) rfl rfl ?_
  replace hf := g_bd hf
  obtain ⟨z_13, hz_13, hf⟩ := hf
  refine g_putF hx hb hts in_Main ty_Main tyok_Main nm_Main hown hK hW hS (ci := 8) (C := "SecretRows") (T := T_Main) (N := 14) rfl (k := 3) (by decide) (hts _ kw_84) (fun _ h9 => h9) rfl hin rfl (ty := (.object "SecretRows$Audit")) (by decide +kernel) rfl rfl hz_13 dMain_init_39 (fun H locs hW hS => ?_)
  refine lv_aload_n hx hb dMain_init_42 rfl (lv_at hl 0 rfl) ?_
  replace hf := g_bps hf
  obtain ⟨a_14, z_15, hz_15, hf⟩ := hf
  refine g_newO hx hb hts in_Text ty_Text tyok_Text hown (hts _ kw_40) (hts _ kw_41) (hts _ kw_3) hK hW hS hA (ci := 0) (C := "SecretRows$Text") (T := T_Text) (N := 2) rfl (fun j hj => by rcases (show j = 0 ∨ j = 1 by omega) with rfl | rfl <;> rfl) (Nat.le_of_ble_eq_true rfl) (Nat.le_of_ble_eq_true rfl) hz_15 dMain_init_43 (fun H hW hS => ?_)
  refine W.cs (cells' := 6) (slots' := 646) rfl rfl ?_
  refine lv_dup hx hb dMain_init_46 rfl ?_
  refine lv_sipush (v := 300) hx hb dMain_init_47 (by decide) ?_
  replace hf := g_bd hf
  obtain ⟨z_16, hz_16, hf⟩ := hf
  refine g_gov (g_rI (As := [.int 300]) (rest := [.ref a_14, .ref a0]) ⟨hx, hb, hml, hown, hts⟩ (mText_init l D A n _ _ a_14 300 hz_16) (cwI 1 hts (gi_I kw_44) rfl rfl rfl (hts _ kw_3) (hts _ kw_42) (hts _ kw_43) rfl hdText_init ⟨Nat.le_of_ble_eq_true rfl, Nat.le_of_ble_eq_true rfl⟩) hK hW hS hA rfl hl.1 rfl (Nat.le_of_ble_eq_true rfl) dMain_init_50 ⟨Nat.le_of_ble_eq_true rfl, Nat.le_of_ble_eq_true rfl⟩) hS (fun H locs hW hS => ?_)
  refine W.cs (cells' := 7) (slots' := 946) rfl rfl ?_
  replace hf := g_bd hf
  obtain ⟨z_17, hz_17, hf⟩ := hf
  refine g_putF hx hb hts in_Main ty_Main tyok_Main nm_Main hown hK hW hS (ci := 8) (C := "SecretRows") (T := T_Main) (N := 14) rfl (k := 4) (by decide) (hts _ kw_85) (fun _ h9 => h9) rfl hin rfl (ty := (.object "SecretRows$Text")) (by decide +kernel) rfl rfl hz_17 dMain_init_53 (fun H locs hW hS => ?_)
  refine lv_aload_n hx hb dMain_init_56 rfl (lv_at hl 0 rfl) ?_
  replace hf := g_bps hf
  obtain ⟨a_18, z_19, hz_19, hf⟩ := hf
  refine g_newO hx hb hts in_Forms ty_Forms tyok_Forms hown (hts _ kw_57) (hts _ kw_58) (hts _ kw_5) hK hW hS hA (ci := 7) (C := "SecretRows$Forms") (T := T_Forms) (N := 5) rfl (fun j hj => by rcases (show j = 0 ∨ j = 1 ∨ j = 2 ∨ j = 3 ∨ j = 4 by omega) with rfl | rfl | rfl | rfl | rfl <;> rfl) (Nat.le_of_ble_eq_true rfl) (Nat.le_of_ble_eq_true rfl) hz_19 dMain_init_57 (fun H hW hS => ?_)
  refine W.cs (cells' := 8) (slots' := 951) rfl rfl ?_
  refine lv_dup hx hb dMain_init_60 rfl ?_
  replace hf := g_bd hf
  obtain ⟨z_20, hz_20, hf⟩ := hf
  refine g_gov (g_rI (As := []) (rest := [.ref a_18, .ref a0]) ⟨hx, hb, hml, hown, hts⟩ (mForms_init l D A n _ _ a_18 hz_20) (cwI 0 hts (gi_I kw_61) rfl rfl rfl (hts _ kw_5) (hts _ kw_59) (hts _ kw_60) rfl hdForms_init ⟨Nat.le_of_ble_eq_true rfl, Nat.le_of_ble_eq_true rfl⟩) hK hW hS hA rfl hl.1 rfl (Nat.le_of_ble_eq_true rfl) dMain_init_61 ⟨Nat.le_of_ble_eq_true rfl, Nat.le_of_ble_eq_true rfl⟩) hS (fun H locs hW hS => ?_)
  refine W.cs (cells' := 12) (slots' := 1191) rfl rfl ?_
  replace hf := g_bd hf
  obtain ⟨z_21, hz_21, hf⟩ := hf
  refine g_putF hx hb hts in_Main ty_Main tyok_Main nm_Main hown hK hW hS (ci := 8) (C := "SecretRows") (T := T_Main) (N := 14) rfl (k := 5) (by decide) (hts _ kw_86) (fun _ h9 => h9) rfl hin rfl (ty := (.object "SecretRows$Forms")) (by decide +kernel) rfl rfl hz_21 dMain_init_64 (fun H locs hW hS => ?_)
  refine lv_aload_n hx hb dMain_init_67 rfl (lv_at hl 0 rfl) ?_
  refine lv_iconst (v := (-1)) hx hb dMain_init_68 (by decide) ?_
  replace hf := g_bd hf
  obtain ⟨z_22, hz_22, hf⟩ := hf
  refine g_put hx hb hts in_Main ty_Main tyok_Main nm_Main hown hK hW hS (ci := 8) (C := "SecretRows") (T := T_Main) (N := 14) rfl (k := 11) (by decide) (hts _ kw_92) (fun _ h9 => h9) rfl (ty := .int) (by decide +kernel) rfl rfl hz_22 dMain_init_69 (fun H locs hW hS => ?_)
  refine lv_aload_n hx hb dMain_init_72 rfl (lv_at hl 0 rfl) ?_
  refine lv_iconst (v := (-1)) hx hb dMain_init_73 (by decide) ?_
  replace hf := g_bd hf
  obtain ⟨z_23, hz_23, hf⟩ := hf
  refine g_put hx hb hts in_Main ty_Main tyok_Main nm_Main hown hK hW hS (ci := 8) (C := "SecretRows") (T := T_Main) (N := 14) rfl (k := 12) (by decide) (hts _ kw_93) (fun _ h9 => h9) rfl (ty := .int) (by decide +kernel) rfl rfl hz_23 dMain_init_74 (fun H locs hW hS => ?_)
  refine lv_aload_n hx hb dMain_init_77 rfl (lv_at hl 0 rfl) ?_
  refine lv_iconst (v := (-1)) hx hb dMain_init_78 (by decide) ?_
  replace hf := g_bd hf
  obtain ⟨z_24, hz_24, hf⟩ := hf
  refine g_put hx hb hts in_Main ty_Main tyok_Main nm_Main hown hK hW hS (ci := 8) (C := "SecretRows") (T := T_Main) (N := 14) rfl (k := 13) (by decide) (hts _ kw_94) (fun _ h9 => h9) rfl (ty := .int) (by decide +kernel) rfl rfl hz_24 dMain_init_79 (fun H locs hW hS => ?_)
  cases hf
  exact g_retv hx hb hr hlocks hW hS (Nat.le_of_ble_eq_true rfl) (Nat.le_of_ble_eq_true rfl) dMain_init_82

def fSecret_init (n : Nat) (a0 : Nat) (i1 : Int32) (i2 : Int32) (i3 : Int32) (z : gS) : Option (gS) :=
(g_pF z a0 2 0 (.int i1)).bind fun z_1 =>
(g_pF z_1 a0 2 1 (.int i2)).bind fun z_2 =>
(g_pF z_2 a0 2 2 (.int i3)).bind fun z_3 =>
some z_3
set_option maxHeartbeats 4000000 in
set_option maxRecDepth 100000 in
theorem mSecret_init (l : Launch) (D : va_G) (A : Nat → Prop) (n : Nat) (z z' : gS) (a0 : Nat) (i1 : Int32) (i2 : Int32) (i3 : Int32) (hf : fSecret_init n a0 i1 i2 i3 z = some z') : Met l ySecret_init wsSecret_init ({ frames := 1, cells := 0, slots := 0, locals := 12 }) (g_P D vwCl gNN gOO A z [.ref a0, .int i1, .int i2, .int i3]) (g_Qv D vwCl A z') 0 0 A := by
  refine Met.ofW (cc := cSecret_init) (maxL := 4) (ret := none) (by decide) rfl ?_
  intro p e s m args below meth c s₁ B hml hv
  obtain ⟨rfl, hW, hK, hA0⟩ := hv
  have hin : meth.name = "<init>" := (name_of_methodNamed B.named B.method).1
  have C : g_C p s m meth c _ cSecret_init 4 none "SecretRows$Secret" gW D vwCl gNN gOO A := ⟨B.exec, B.bytes, B.returns, hml, findClass_of_methodNamed B.named, fun w hw => atoms_spec (ws := wsSecret_init) B.pre w (List.mem_cons_of_mem _ hw), B.notSynchronized, hK, fun q hq => hA0 q (by rw [← hW.1]; exact hq)⟩
  have hS : va_S A s.heap s.heap [] := va_S.rf
  have hl := lv_entry ([.ref a0, .int i1, .int i2, .int i3]) (n := 4) (Nat.le_of_ble_eq_true rfl)
  rw [lg_entry_eq]
  generalize (lg_sl ([.ref a0, .int i1, .int i2, .int i3]) ++ List.replicate (4 - (lg_sl ([.ref a0, .int i1, .int i2, .int i3])).length) Slot.unset).toArray = ls at hl ⊢
  have hl : lv_has ls 4 [(0, .ref a0), (1, .int i1), (2, .int i2), (3, .int i3)] := hl
  obtain ⟨hx, hb, hr, hml, hown, hts, hlocks, hK, hA⟩ := id C
  unfold fSecret_init at hf
  refine lv_aload_n hx hb dSecret_init_0 rfl (lv_at hl 0 rfl) ?_
  refine W.objInit hx hb hown (hts _ kw_132) (hts _ kw_18) (hts _ kw_19) rfl (by rw [hml]; exact hl.1) rfl dSecret_init_1 (Nat.le_of_ble_eq_true rfl) (Nat.le_of_ble_eq_true rfl) ?_
  refine W.eq (g2 := F0 m 4 _ []) rfl ?_
  refine lv_aload_n hx hb dSecret_init_4 rfl (lv_at hl 0 rfl) ?_
  refine lv_iload_n hx hb dSecret_init_5 rfl (lv_at hl 1 rfl) ?_
  replace hf := g_bd hf
  obtain ⟨z_1, hz_1, hf⟩ := hf
  refine g_putF hx hb hts in_Secret ty_Secret tyok_Secret nm_Secret hown hK hW hS (ci := 2) (C := "SecretRows$Secret") (T := T_Secret) (N := 7) rfl (k := 0) (by decide) (hts _ kw_133) (fun _ h9 => h9) rfl hin rfl (ty := .int) (by decide +kernel) rfl rfl hz_1 dSecret_init_6 (fun H locs hW hS => ?_)
  refine lv_aload_n hx hb dSecret_init_9 rfl (lv_at hl 0 rfl) ?_
  refine lv_iload_n hx hb dSecret_init_10 rfl (lv_at hl 2 rfl) ?_
  replace hf := g_bd hf
  obtain ⟨z_2, hz_2, hf⟩ := hf
  refine g_putF hx hb hts in_Secret ty_Secret tyok_Secret nm_Secret hown hK hW hS (ci := 2) (C := "SecretRows$Secret") (T := T_Secret) (N := 7) rfl (k := 1) (by decide) (hts _ kw_134) (fun _ h9 => h9) rfl hin rfl (ty := .int) (by decide +kernel) rfl rfl hz_2 dSecret_init_11 (fun H locs hW hS => ?_)
  refine lv_aload_n hx hb dSecret_init_14 rfl (lv_at hl 0 rfl) ?_
  refine lv_iload_n hx hb dSecret_init_15 rfl (lv_at hl 3 rfl) ?_
  replace hf := g_bd hf
  obtain ⟨z_3, hz_3, hf⟩ := hf
  refine g_putF hx hb hts in_Secret ty_Secret tyok_Secret nm_Secret hown hK hW hS (ci := 2) (C := "SecretRows$Secret") (T := T_Secret) (N := 7) rfl (k := 2) (by decide) (hts _ kw_135) (fun _ h9 => h9) rfl hin rfl (ty := .int) (by decide +kernel) rfl rfl hz_3 dSecret_init_16 (fun H locs hW hS => ?_)
  cases hf
  exact g_retv hx hb hr hlocks hW hS (Nat.le_of_ble_eq_true rfl) (Nat.le_of_ble_eq_true rfl) dSecret_init_19

def fMain_secret (n : Nat) (a0 : Nat) (i1 : Int32) (i2 : Int32) (i3 : Int32) (z : gS) : Option (Int32 × gS) :=
(g_fI z a0 8 6).bind fun v_1 =>
(g_fR z a0 8 0).bind fun r_2 =>
r_2.bind fun a_3 =>
(g_len z a_3).bind fun v_4 =>
if v_1 < v_4 then (
(g_fR z a0 8 0).bind fun r_6 =>
(g_fI z a0 8 6).bind fun v_7 =>
g_bp (g_nwO z 2 [.int 0, .int 0, .int 0, .null, .null, .int 0, .int 0]) fun a_8 z_9 =>
(fSecret_init n a_8 i1 i2 i3 z_9).bind fun z_10 =>
r_6.bind fun a_11 =>
(g_is z_10 a_8 2).bind fun _ =>
(g_stR z_10 (.object "SecretRows$Secret") a_11 v_7 (some a_8)).bind fun z_12 =>
(g_fI z_12 a0 8 6).bind fun v_13 =>
(g_pF z_12 a0 8 6 (.int (v_13 + 1))).bind fun z_14 =>
(g_fI z_14 a0 8 6).bind fun v_15 =>
some ((v_15 - 1), z_14))
else (
some ((-1), z))
set_option maxHeartbeats 4000000 in
set_option maxRecDepth 100000 in
theorem mMain_secret (l : Launch) (D : va_G) (A : Nat → Prop) (n : Nat) (z z' : gS) (a0 : Nat) (i1 : Int32) (i2 : Int32) (i3 : Int32) (r : Int32) (hf : fMain_secret n a0 i1 i2 i3 z = some (r, z')) : Met l yMain_secret wsMain_secret ({ frames := 2, cells := 1, slots := 7, locals := 35 }) (g_P D vwCl gNN gOO A z [.ref a0, .int i1, .int i2, .int i3]) (g_Qi D vwCl A r z') 1 7 A := by
  refine Met.ofW (cc := cMain_secret) (maxL := 4) (ret := (some .int)) (by decide) rfl ?_
  intro p e s m args below meth c s₁ B hml hv
  obtain ⟨rfl, hW, hK, hA0⟩ := hv
  have C : g_C p s m meth c _ cMain_secret 4 (some .int) "SecretRows" gW D vwCl gNN gOO A := ⟨B.exec, B.bytes, B.returns, hml, findClass_of_methodNamed B.named, fun w hw => atoms_spec (ws := wsMain_secret) B.pre w (List.mem_cons_of_mem _ hw), B.notSynchronized, hK, fun q hq => hA0 q (by rw [← hW.1]; exact hq)⟩
  have hS : va_S A s.heap s.heap [] := va_S.rf
  have hl := lv_entry ([.ref a0, .int i1, .int i2, .int i3]) (n := 4) (Nat.le_of_ble_eq_true rfl)
  rw [lg_entry_eq]
  generalize (lg_sl ([.ref a0, .int i1, .int i2, .int i3]) ++ List.replicate (4 - (lg_sl ([.ref a0, .int i1, .int i2, .int i3])).length) Slot.unset).toArray = ls at hl ⊢
  have hl : lv_has ls 4 [(0, .ref a0), (1, .int i1), (2, .int i2), (3, .int i3)] := hl
  obtain ⟨hx, hb, hr, hml, hown, hts, hlocks, hK, hA⟩ := id C
  unfold fMain_secret at hf
  refine lv_aload_n hx hb dMain_secret_0 rfl (lv_at hl 0 rfl) ?_
  replace hf := g_bd hf
  obtain ⟨v_1, hv_1, hf⟩ := hf
  refine g_getI hx hb hts in_Main hown hK hW (ci := 8) (C := "SecretRows") (T := T_Main) (N := 14) rfl (k := 6) (by decide) (hts _ kw_87) (fun _ h9 => h9) hv_1 dMain_secret_1 ?_
  refine lv_aload_n hx hb dMain_secret_4 rfl (lv_at hl 0 rfl) ?_
  replace hf := g_bd hf
  obtain ⟨r_2, hr_2, hf⟩ := hf
  refine g_getR hx hb hts in_Main hown hK hW (ci := 8) (C := "SecretRows") (T := T_Main) (N := 14) rfl (k := 0) (by decide) (hts _ kw_81) (fun _ h9 => h9) hr_2 dMain_secret_5 ?_
  replace hf := g_bd hf
  obtain ⟨a_3, ea_3, hf⟩ := hf
  subst ea_3
  refine W.eq (g2 := F0 m 8 _ [.ref a_3, .int v_1]) rfl ?_
  replace hf := g_bd hf
  obtain ⟨v_4, hv_4, hf⟩ := hf
  refine g_alen hx hb hK hW hv_4 dMain_secret_8 ?_
  refine lv_icmp_lt (tgt := 14) hx hb dMain_secret_9 (by decide) (fun c_5 => ?_) (fun c_5 => ?_)
  · replace hf := g_it c_5 hf
    refine lv_aload_n hx hb dMain_secret_14 rfl (lv_at hl 0 rfl) ?_
    replace hf := g_bd hf
    obtain ⟨r_6, hr_6, hf⟩ := hf
    refine g_getR hx hb hts in_Main hown hK hW (ci := 8) (C := "SecretRows") (T := T_Main) (N := 14) rfl (k := 0) (by decide) (hts _ kw_81) (fun _ h9 => h9) hr_6 dMain_secret_15 ?_
    refine lv_aload_n hx hb dMain_secret_18 rfl (lv_at hl 0 rfl) ?_
    replace hf := g_bd hf
    obtain ⟨v_7, hv_7, hf⟩ := hf
    refine g_getI hx hb hts in_Main hown hK hW (ci := 8) (C := "SecretRows") (T := T_Main) (N := 14) rfl (k := 6) (by decide) (hts _ kw_87) (fun _ h9 => h9) hv_7 dMain_secret_19 ?_
    replace hf := g_bps hf
    obtain ⟨a_8, z_9, hz_9, hf⟩ := hf
    refine g_newO hx hb hts in_Secret ty_Secret tyok_Secret hown (hts _ kw_20) (hts _ kw_128) (hts _ kw_7) hK hW hS hA (ci := 2) (C := "SecretRows$Secret") (T := T_Secret) (N := 7) rfl (fun j hj => by rcases (show j = 0 ∨ j = 1 ∨ j = 2 ∨ j = 3 ∨ j = 4 ∨ j = 5 ∨ j = 6 by omega) with rfl | rfl | rfl | rfl | rfl | rfl | rfl <;> rfl) (Nat.le_of_ble_eq_true rfl) (Nat.le_of_ble_eq_true rfl) hz_9 dMain_secret_22 (fun H hW hS => ?_)
    refine W.cs (cells' := 1) (slots' := 7) rfl rfl ?_
    refine lv_dup hx hb dMain_secret_25 rfl ?_
    refine lv_iload_n hx hb dMain_secret_26 rfl (lv_at hl 1 rfl) ?_
    refine lv_iload_n hx hb dMain_secret_27 rfl (lv_at hl 2 rfl) ?_
    refine lv_iload_n hx hb dMain_secret_28 rfl (lv_at hl 3 rfl) ?_
    replace hf := g_bd hf
    obtain ⟨z_10, hz_10, hf⟩ := hf
    refine g_gov (g_rI (As := [.int i1, .int i2, .int i3]) (rest := [.ref a_8, .int v_7, va_rf r_6]) ⟨hx, hb, hml, hown, hts⟩ (mSecret_init l D A n _ _ a_8 i1 i2 i3 hz_10) (cwI 3 hts (gi_I kw_131) rfl rfl rfl (hts _ kw_7) (hts _ kw_129) (hts _ kw_130) rfl hdSecret_init ⟨Nat.le_of_ble_eq_true rfl, Nat.le_of_ble_eq_true rfl⟩) hK hW hS hA rfl hl.1 rfl (by simp only [List.map_cons, List.map_nil, g_cat]; exact Nat.le_of_ble_eq_true rfl) dMain_secret_29 ⟨Nat.le_of_ble_eq_true rfl, Nat.le_of_ble_eq_true rfl⟩) hS (fun H locs hW hS => ?_)
    replace hf := g_bd hf
    obtain ⟨a_11, ea_11, hf⟩ := hf
    subst ea_11
    refine W.eq (g2 := F0 m 32 _ [.ref a_8, .int v_7, .ref a_11]) rfl ?_
    replace hf := g_bd hf
    obtain ⟨_, hz_12i, hf⟩ := hf
    replace hf := g_bd hf
    obtain ⟨z_12, hz_12, hf⟩ := hf
    refine g_ast_r (r := ("SecretRows$Secret", T_Secret, 7)) (ci := 2) hx hb hK hW hS rfl hz_12i hz_12 dMain_secret_32 (fun H locs hW hS => ?_)
    refine lv_aload_n hx hb dMain_secret_33 rfl (lv_at hl 0 rfl) ?_
    refine lv_dup hx hb dMain_secret_34 rfl ?_
    replace hf := g_bd hf
    obtain ⟨v_13, hv_13, hf⟩ := hf
    refine g_getI hx hb hts in_Main hown hK hW (ci := 8) (C := "SecretRows") (T := T_Main) (N := 14) rfl (k := 6) (by decide) (hts _ kw_87) (fun _ h9 => h9) hv_13 dMain_secret_35 ?_
    refine lv_iconst (v := 1) hx hb dMain_secret_38 (by decide) ?_
    refine lv_iadd hx hb dMain_secret_39 ?_
    replace hf := g_bd hf
    obtain ⟨z_14, hz_14, hf⟩ := hf
    refine g_put hx hb hts in_Main ty_Main tyok_Main nm_Main hown hK hW hS (ci := 8) (C := "SecretRows") (T := T_Main) (N := 14) rfl (k := 6) (by decide) (hts _ kw_87) (fun _ h9 => h9) rfl (ty := .int) (by decide +kernel) rfl rfl hz_14 dMain_secret_40 (fun H locs hW hS => ?_)
    refine lv_aload_n hx hb dMain_secret_43 rfl (lv_at hl 0 rfl) ?_
    replace hf := g_bd hf
    obtain ⟨v_15, hv_15, hf⟩ := hf
    refine g_getI hx hb hts in_Main hown hK hW (ci := 8) (C := "SecretRows") (T := T_Main) (N := 14) rfl (k := 6) (by decide) (hts _ kw_87) (fun _ h9 => h9) hv_15 dMain_secret_44 ?_
    refine lv_iconst (v := 1) hx hb dMain_secret_47 (by decide) ?_
    refine lv_isub hx hb dMain_secret_48 ?_
    cases hf
    exact g_reti hx hb hr hlocks hW hS (Nat.le_of_ble_eq_true rfl) (Nat.le_of_ble_eq_true rfl) dMain_secret_49
  · replace hf := g_if c_5 hf
    refine lv_iconst (v := (-1)) hx hb dMain_secret_12 (by decide) ?_
    cases hf
    exact g_reti hx hb hr hlocks hW hS (Nat.le_of_ble_eq_true rfl) (Nat.le_of_ble_eq_true rfl) dMain_secret_13

def fText_add (n : Nat) (a0 : Nat) (i1 : Int32) (z : gS) : Option (Int32 × gS) :=
(g_fI z a0 0 1).bind fun v_1 =>
(g_fR z a0 0 0).bind fun r_2 =>
r_2.bind fun a_3 =>
(g_len z a_3).bind fun v_4 =>
if v_1 < v_4 then (
(g_fR z a0 0 0).bind fun r_6 =>
(g_fI z a0 0 1).bind fun v_7 =>
r_6.bind fun a_8 =>
(g_stI z .char a_8 v_7 (vp_nar .char ((i1.toUInt32 % 65536).toInt32))).bind fun z_9 =>
(g_fI z_9 a0 0 1).bind fun v_10 =>
(g_pF z_9 a0 0 1 (.int (v_10 + 1))).bind fun z_11 =>
some (1, z_11))
else (
some (0, z))
set_option maxHeartbeats 4000000 in
set_option maxRecDepth 100000 in
theorem mText_add (l : Launch) (D : va_G) (A : Nat → Prop) (n : Nat) (z z' : gS) (a0 : Nat) (i1 : Int32) (r : Int32) (hf : fText_add n a0 i1 z = some (r, z')) : Met l yText_add wsText_add ({ frames := 0, cells := 0, slots := 0, locals := 0 }) (g_P D vwCl gNN gOO A z [.ref a0, .int i1]) (g_Qi D vwCl A r z') 0 0 A := by
  refine Met.ofW (cc := cText_add) (maxL := 2) (ret := (some .boolean)) (by decide) rfl ?_
  intro p e s m args below meth c s₁ B hml hv
  obtain ⟨rfl, hW, hK, hA0⟩ := hv
  have C : g_C p s m meth c _ cText_add 2 (some .boolean) "SecretRows$Text" gW D vwCl gNN gOO A := ⟨B.exec, B.bytes, B.returns, hml, findClass_of_methodNamed B.named, fun w hw => atoms_spec (ws := wsText_add) B.pre w (List.mem_cons_of_mem _ hw), B.notSynchronized, hK, fun q hq => hA0 q (by rw [← hW.1]; exact hq)⟩
  have hS : va_S A s.heap s.heap [] := va_S.rf
  have hl := lv_entry ([.ref a0, .int i1]) (n := 2) (Nat.le_of_ble_eq_true rfl)
  rw [lg_entry_eq]
  generalize (lg_sl ([.ref a0, .int i1]) ++ List.replicate (2 - (lg_sl ([.ref a0, .int i1])).length) Slot.unset).toArray = ls at hl ⊢
  have hl : lv_has ls 2 [(0, .ref a0), (1, .int i1)] := hl
  obtain ⟨hx, hb, hr, hml, hown, hts, hlocks, hK, hA⟩ := id C
  unfold fText_add at hf
  refine lv_aload_n hx hb dText_add_0 rfl (lv_at hl 0 rfl) ?_
  replace hf := g_bd hf
  obtain ⟨v_1, hv_1, hf⟩ := hf
  refine g_getI hx hb hts in_Text hown hK hW (ci := 0) (C := "SecretRows$Text") (T := T_Text) (N := 2) rfl (k := 1) (by decide) (hts _ kw_50) (fun _ h9 => h9) hv_1 dText_add_1 ?_
  refine lv_aload_n hx hb dText_add_4 rfl (lv_at hl 0 rfl) ?_
  replace hf := g_bd hf
  obtain ⟨r_2, hr_2, hf⟩ := hf
  refine g_getR hx hb hts in_Text hown hK hW (ci := 0) (C := "SecretRows$Text") (T := T_Text) (N := 2) rfl (k := 0) (by decide) (hts _ kw_49) (fun _ h9 => h9) hr_2 dText_add_5 ?_
  replace hf := g_bd hf
  obtain ⟨a_3, ea_3, hf⟩ := hf
  subst ea_3
  refine W.eq (g2 := F0 m 8 _ [.ref a_3, .int v_1]) rfl ?_
  replace hf := g_bd hf
  obtain ⟨v_4, hv_4, hf⟩ := hf
  refine g_alen hx hb hK hW hv_4 dText_add_8 ?_
  refine lv_icmp_lt (tgt := 14) hx hb dText_add_9 (by decide) (fun c_5 => ?_) (fun c_5 => ?_)
  · replace hf := g_it c_5 hf
    refine lv_aload_n hx hb dText_add_14 rfl (lv_at hl 0 rfl) ?_
    replace hf := g_bd hf
    obtain ⟨r_6, hr_6, hf⟩ := hf
    refine g_getR hx hb hts in_Text hown hK hW (ci := 0) (C := "SecretRows$Text") (T := T_Text) (N := 2) rfl (k := 0) (by decide) (hts _ kw_49) (fun _ h9 => h9) hr_6 dText_add_15 ?_
    refine lv_aload_n hx hb dText_add_18 rfl (lv_at hl 0 rfl) ?_
    replace hf := g_bd hf
    obtain ⟨v_7, hv_7, hf⟩ := hf
    refine g_getI hx hb hts in_Text hown hK hW (ci := 0) (C := "SecretRows$Text") (T := T_Text) (N := 2) rfl (k := 1) (by decide) (hts _ kw_50) (fun _ h9 => h9) hv_7 dText_add_19 ?_
    refine lv_iload_n hx hb dText_add_22 rfl (lv_at hl 1 rfl) ?_
    refine lv_i2c (v := (i1.toUInt32 % 65536).toInt32) hx hb dText_add_23 rfl ?_
    replace hf := g_bd hf
    obtain ⟨a_8, ea_8, hf⟩ := hf
    subst ea_8
    refine W.eq (g2 := F0 m 24 _ [.int ((i1.toUInt32 % 65536).toInt32), .int v_7, .ref a_8]) rfl ?_
    replace hf := g_bd hf
    obtain ⟨z_9, hz_9, hf⟩ := hf
    refine g_ast_c hx hb hW hS hz_9 dText_add_24 (fun H locs hW hS => ?_)
    refine lv_aload_n hx hb dText_add_25 rfl (lv_at hl 0 rfl) ?_
    refine lv_dup hx hb dText_add_26 rfl ?_
    replace hf := g_bd hf
    obtain ⟨v_10, hv_10, hf⟩ := hf
    refine g_getI hx hb hts in_Text hown hK hW (ci := 0) (C := "SecretRows$Text") (T := T_Text) (N := 2) rfl (k := 1) (by decide) (hts _ kw_50) (fun _ h9 => h9) hv_10 dText_add_27 ?_
    refine lv_iconst (v := 1) hx hb dText_add_30 (by decide) ?_
    refine lv_iadd hx hb dText_add_31 ?_
    replace hf := g_bd hf
    obtain ⟨z_11, hz_11, hf⟩ := hf
    refine g_put hx hb hts in_Text ty_Text tyok_Text nm_Text hown hK hW hS (ci := 0) (C := "SecretRows$Text") (T := T_Text) (N := 2) rfl (k := 1) (by decide) (hts _ kw_50) (fun _ h9 => h9) rfl (ty := .int) (by decide +kernel) rfl rfl hz_11 dText_add_32 (fun H locs hW hS => ?_)
    refine lv_iconst (v := 1) hx hb dText_add_35 (by decide) ?_
    cases hf
    exact g_retz hx hb hr rfl hlocks hW hS (Nat.le_of_ble_eq_true rfl) (Nat.le_of_ble_eq_true rfl) dText_add_36
  · replace hf := g_if c_5 hf
    refine lv_iconst (v := 0) hx hb dText_add_12 (by decide) ?_
    cases hf
    exact g_retz hx hb hr rfl hlocks hW hS (Nat.le_of_ble_eq_true rfl) (Nat.le_of_ble_eq_true rfl) dText_add_13

def fMain_type (n : Nat) (a0 : Nat) (i1 : Int32) (z : gS) : Option (Int32 × gS) :=
if i1 < 32 then (
some (0, z))
else (
if 126 < i1 then (
some (0, z))
else (
(g_fR z a0 8 4).bind fun r_3 =>
r_3.bind fun a_4 =>
(g_is z a_4 0).bind fun _ =>
g_bp (fText_add n a_4 i1 z) fun v_7 z_6 =>
if v_7 = 0 then (
some (0, z_6))
else (
some (1, z_6))))
set_option maxHeartbeats 4000000 in
set_option maxRecDepth 100000 in
theorem mMain_type (l : Launch) (D : va_G) (A : Nat → Prop) (n : Nat) (z z' : gS) (a0 : Nat) (i1 : Int32) (r : Int32) (hf : fMain_type n a0 i1 z = some (r, z')) : Met l yMain_type wsMain_type ({ frames := 1, cells := 0, slots := 0, locals := 21 }) (g_P D vwCl gNN gOO A z [.ref a0, .int i1]) (g_Qi D vwCl A r z') 0 0 A := by
  refine Met.ofW (cc := cMain_type) (maxL := 2) (ret := (some .boolean)) (by decide) rfl ?_
  intro p e s m args below meth c s₁ B hml hv
  obtain ⟨rfl, hW, hK, hA0⟩ := hv
  have C : g_C p s m meth c _ cMain_type 2 (some .boolean) "SecretRows" gW D vwCl gNN gOO A := ⟨B.exec, B.bytes, B.returns, hml, findClass_of_methodNamed B.named, fun w hw => atoms_spec (ws := wsMain_type) B.pre w (List.mem_cons_of_mem _ hw), B.notSynchronized, hK, fun q hq => hA0 q (by rw [← hW.1]; exact hq)⟩
  have hS : va_S A s.heap s.heap [] := va_S.rf
  have hl := lv_entry ([.ref a0, .int i1]) (n := 2) (Nat.le_of_ble_eq_true rfl)
  rw [lg_entry_eq]
  generalize (lg_sl ([.ref a0, .int i1]) ++ List.replicate (2 - (lg_sl ([.ref a0, .int i1])).length) Slot.unset).toArray = ls at hl ⊢
  have hl : lv_has ls 2 [(0, .ref a0), (1, .int i1)] := hl
  obtain ⟨hx, hb, hr, hml, hown, hts, hlocks, hK, hA⟩ := id C
  unfold fMain_type at hf
  refine lv_iload_n hx hb dMain_type_0 rfl (lv_at hl 1 rfl) ?_
  refine lv_bipush (v := 32) hx hb dMain_type_1 (by decide) ?_
  refine lv_icmp_lt (tgt := 27) hx hb dMain_type_3 (by decide) (fun c_1 => ?_) (fun c_1 => ?_)
  · replace hf := g_it c_1 hf
    refine lv_iconst (v := 0) hx hb dMain_type_27 (by decide) ?_
    cases hf
    exact g_retz hx hb hr rfl hlocks hW hS (Nat.le_of_ble_eq_true rfl) (Nat.le_of_ble_eq_true rfl) dMain_type_28
  · replace hf := g_if c_1 hf
    refine lv_iload_n hx hb dMain_type_6 rfl (lv_at hl 1 rfl) ?_
    refine lv_bipush (v := 126) hx hb dMain_type_7 (by decide) ?_
    refine lv_icmp_gt (tgt := 27) hx hb dMain_type_9 (by decide) (fun c_2 => ?_) (fun c_2 => ?_)
    · replace hf := g_it c_2 hf
      refine lv_iconst (v := 0) hx hb dMain_type_27 (by decide) ?_
      cases hf
      exact g_retz hx hb hr rfl hlocks hW hS (Nat.le_of_ble_eq_true rfl) (Nat.le_of_ble_eq_true rfl) dMain_type_28
    · replace hf := g_if c_2 hf
      refine lv_aload_n hx hb dMain_type_12 rfl (lv_at hl 0 rfl) ?_
      replace hf := g_bd hf
      obtain ⟨r_3, hr_3, hf⟩ := hf
      refine g_getR hx hb hts in_Main hown hK hW (ci := 8) (C := "SecretRows") (T := T_Main) (N := 14) rfl (k := 4) (by decide) (hts _ kw_85) (fun _ h9 => h9) hr_3 dMain_type_13 ?_
      refine lv_iload_n hx hb dMain_type_16 rfl (lv_at hl 1 rfl) ?_
      replace hf := g_bd hf
      obtain ⟨a_4, ea_4, hf⟩ := hf
      subst ea_4
      refine W.eq (g2 := F0 m 17 _ [.int i1, .ref a_4]) rfl ?_
      replace hf := g_bd hf
      obtain ⟨_, hi_5, hf⟩ := hf
      replace hf := g_bps hf
      obtain ⟨v_7, z_6, hz_6, hf⟩ := hf
      refine g_goi (g_rV (As := [.int i1]) (rest := []) ⟨hx, hb, hml, hown, hts⟩ (mText_add l D A n _ _ a_4 i1 _ hz_6) (cwV 1 hts (gi_V kw_162 kw_163 kw_164 kw_3 kw_165) rfl rfl rfl ⟨rfl, hdText_add⟩ ⟨Nat.le_of_ble_eq_true rfl, Nat.le_of_ble_eq_true rfl⟩) hK hW hS hA (ci := 0) (T := T_Text) (N := 2) rfl hi_5 rfl hl.1 rfl (Nat.le_of_ble_eq_true rfl) dMain_type_17 ⟨Nat.le_of_ble_eq_true rfl, Nat.le_of_ble_eq_true rfl⟩) hS (fun H locs hW hS => ?_)
      refine lv_if_eq (tgt := 27) hx hb dMain_type_20 (by decide) (fun c_8 => ?_) (fun c_8 => ?_)
      · replace hf := g_it c_8 hf
        refine lv_iconst (v := 0) hx hb dMain_type_27 (by decide) ?_
        cases hf
        exact g_retz hx hb hr rfl hlocks hW hS (Nat.le_of_ble_eq_true rfl) (Nat.le_of_ble_eq_true rfl) dMain_type_28
      · replace hf := g_if c_8 hf
        refine lv_iconst (v := 1) hx hb dMain_type_23 (by decide) ?_
        refine lv_goto (tgt := 28) hx hb dMain_type_24 (by decide) ?_
        cases hf
        exact g_retz hx hb hr rfl hlocks hW hS (Nat.le_of_ble_eq_true rfl) (Nat.le_of_ble_eq_true rfl) dMain_type_28

def fMain_findSecret (n : Nat) (a0 : Nat) (i1 : Int32) (z : gS) : Option (Option Nat × gS) :=
if i1 < 0 then (
some (none, z))
else (
(g_fI z a0 8 6).bind fun v_2 =>
if v_2 ≤ i1 then (
some (none, z))
else (
(g_fR z a0 8 0).bind fun r_4 =>
r_4.bind fun a_5 =>
(g_len z a_5).bind fun v_6 =>
if i1 < v_6 then (
(g_fR z a0 8 0).bind fun r_8 =>
r_8.bind fun a_9 =>
(g_ldR z (.object "SecretRows$Secret") a_9 i1).bind fun r_10 =>
some (r_10, z))
else (
some (none, z))))
set_option maxHeartbeats 4000000 in
set_option maxRecDepth 100000 in
theorem mMain_findSecret (l : Launch) (D : va_G) (A : Nat → Prop) (n : Nat) (z z' : gS) (a0 : Nat) (i1 : Int32) (r : Option Nat) (hf : fMain_findSecret n a0 i1 z = some (r, z')) : Met l yMain_findSecret wsMain_findSecret ({ frames := 0, cells := 0, slots := 0, locals := 0 }) (g_P D vwCl gNN gOO A z [.ref a0, .int i1]) (g_Qq D vwCl A r z') 0 0 A := by
  refine Met.ofW (cc := cMain_findSecret) (maxL := 2) (ret := (some (.object "SecretRows$Secret"))) (by decide) rfl ?_
  intro p e s m args below meth c s₁ B hml hv
  obtain ⟨rfl, hW, hK, hA0⟩ := hv
  have C : g_C p s m meth c _ cMain_findSecret 2 (some (.object "SecretRows$Secret")) "SecretRows" gW D vwCl gNN gOO A := ⟨B.exec, B.bytes, B.returns, hml, findClass_of_methodNamed B.named, fun w hw => atoms_spec (ws := wsMain_findSecret) B.pre w (List.mem_cons_of_mem _ hw), B.notSynchronized, hK, fun q hq => hA0 q (by rw [← hW.1]; exact hq)⟩
  have hS : va_S A s.heap s.heap [] := va_S.rf
  have hl := lv_entry ([.ref a0, .int i1]) (n := 2) (Nat.le_of_ble_eq_true rfl)
  rw [lg_entry_eq]
  generalize (lg_sl ([.ref a0, .int i1]) ++ List.replicate (2 - (lg_sl ([.ref a0, .int i1])).length) Slot.unset).toArray = ls at hl ⊢
  have hl : lv_has ls 2 [(0, .ref a0), (1, .int i1)] := hl
  obtain ⟨hx, hb, hr, hml, hown, hts, hlocks, hK, hA⟩ := id C
  unfold fMain_findSecret at hf
  refine lv_iload_n hx hb dMain_findSecret_0 rfl (lv_at hl 1 rfl) ?_
  refine lv_if_lt (tgt := 21) hx hb dMain_findSecret_1 (by decide) (fun c_1 => ?_) (fun c_1 => ?_)
  · replace hf := g_it c_1 hf
    refine lv_null hx hb dMain_findSecret_21 ?_
    refine lv_goto (tgt := 31) hx hb dMain_findSecret_22 (by decide) ?_
    cases hf
    exact g_reta (v := none) hx hb hr (Or.inl ⟨_, rfl⟩) hlocks hW hS (Nat.le_of_ble_eq_true rfl) (Nat.le_of_ble_eq_true rfl) dMain_findSecret_31
  · replace hf := g_if c_1 hf
    refine lv_iload_n hx hb dMain_findSecret_4 rfl (lv_at hl 1 rfl) ?_
    refine lv_aload_n hx hb dMain_findSecret_5 rfl (lv_at hl 0 rfl) ?_
    replace hf := g_bd hf
    obtain ⟨v_2, hv_2, hf⟩ := hf
    refine g_getI hx hb hts in_Main hown hK hW (ci := 8) (C := "SecretRows") (T := T_Main) (N := 14) rfl (k := 6) (by decide) (hts _ kw_87) (fun _ h9 => h9) hv_2 dMain_findSecret_6 ?_
    refine lv_icmp_ge (tgt := 21) hx hb dMain_findSecret_9 (by decide) (fun c_3 => ?_) (fun c_3 => ?_)
    · replace hf := g_it c_3 hf
      refine lv_null hx hb dMain_findSecret_21 ?_
      refine lv_goto (tgt := 31) hx hb dMain_findSecret_22 (by decide) ?_
      cases hf
      exact g_reta (v := none) hx hb hr (Or.inl ⟨_, rfl⟩) hlocks hW hS (Nat.le_of_ble_eq_true rfl) (Nat.le_of_ble_eq_true rfl) dMain_findSecret_31
    · replace hf := g_if c_3 hf
      refine lv_iload_n hx hb dMain_findSecret_12 rfl (lv_at hl 1 rfl) ?_
      refine lv_aload_n hx hb dMain_findSecret_13 rfl (lv_at hl 0 rfl) ?_
      replace hf := g_bd hf
      obtain ⟨r_4, hr_4, hf⟩ := hf
      refine g_getR hx hb hts in_Main hown hK hW (ci := 8) (C := "SecretRows") (T := T_Main) (N := 14) rfl (k := 0) (by decide) (hts _ kw_81) (fun _ h9 => h9) hr_4 dMain_findSecret_14 ?_
      replace hf := g_bd hf
      obtain ⟨a_5, ea_5, hf⟩ := hf
      subst ea_5
      refine W.eq (g2 := F0 m 17 _ [.ref a_5, .int i1]) rfl ?_
      replace hf := g_bd hf
      obtain ⟨v_6, hv_6, hf⟩ := hf
      refine g_alen hx hb hK hW hv_6 dMain_findSecret_17 ?_
      refine lv_icmp_lt (tgt := 25) hx hb dMain_findSecret_18 (by decide) (fun c_7 => ?_) (fun c_7 => ?_)
      · replace hf := g_it c_7 hf
        refine lv_aload_n hx hb dMain_findSecret_25 rfl (lv_at hl 0 rfl) ?_
        replace hf := g_bd hf
        obtain ⟨r_8, hr_8, hf⟩ := hf
        refine g_getR hx hb hts in_Main hown hK hW (ci := 8) (C := "SecretRows") (T := T_Main) (N := 14) rfl (k := 0) (by decide) (hts _ kw_81) (fun _ h9 => h9) hr_8 dMain_findSecret_26 ?_
        refine lv_iload_n hx hb dMain_findSecret_29 rfl (lv_at hl 1 rfl) ?_
        replace hf := g_bd hf
        obtain ⟨a_9, ea_9, hf⟩ := hf
        subst ea_9
        refine W.eq (g2 := F0 m 30 _ [.int i1, .ref a_9]) rfl ?_
        replace hf := g_bd hf
        obtain ⟨r_10, hr_10, hf⟩ := hf
        refine g_ald_r hx hb hK hW hr_10 dMain_findSecret_30 ?_
        cases hf
        exact g_reta (v := _) hx hb hr (Or.inl ⟨_, rfl⟩) hlocks hW hS (Nat.le_of_ble_eq_true rfl) (Nat.le_of_ble_eq_true rfl) dMain_findSecret_31
      · replace hf := g_if c_7 hf
        refine lv_null hx hb dMain_findSecret_21 ?_
        refine lv_goto (tgt := 31) hx hb dMain_findSecret_22 (by decide) ?_
        cases hf
        exact g_reta (v := none) hx hb hr (Or.inl ⟨_, rfl⟩) hlocks hW hS (Nat.le_of_ble_eq_true rfl) (Nat.le_of_ble_eq_true rfl) dMain_findSecret_31

def fText_length (n : Nat) (a0 : Nat) (z : gS) : Option (Int32 × gS) :=
(g_fI z a0 0 1).bind fun v_1 =>
some (v_1, z)
set_option maxHeartbeats 4000000 in
set_option maxRecDepth 100000 in
theorem mText_length (l : Launch) (D : va_G) (A : Nat → Prop) (n : Nat) (z z' : gS) (a0 : Nat) (r : Int32) (hf : fText_length n a0 z = some (r, z')) : Met l yText_length wsText_length ({ frames := 0, cells := 0, slots := 0, locals := 0 }) (g_P D vwCl gNN gOO A z [.ref a0]) (g_Qi D vwCl A r z') 0 0 A := by
  refine Met.ofW (cc := cText_length) (maxL := 1) (ret := (some .int)) (by decide) rfl ?_
  intro p e s m args below meth c s₁ B hml hv
  obtain ⟨rfl, hW, hK, hA0⟩ := hv
  have C : g_C p s m meth c _ cText_length 1 (some .int) "SecretRows$Text" gW D vwCl gNN gOO A := ⟨B.exec, B.bytes, B.returns, hml, findClass_of_methodNamed B.named, fun w hw => atoms_spec (ws := wsText_length) B.pre w (List.mem_cons_of_mem _ hw), B.notSynchronized, hK, fun q hq => hA0 q (by rw [← hW.1]; exact hq)⟩
  have hS : va_S A s.heap s.heap [] := va_S.rf
  have hl := lv_entry ([.ref a0]) (n := 1) (Nat.le_of_ble_eq_true rfl)
  rw [lg_entry_eq]
  generalize (lg_sl ([.ref a0]) ++ List.replicate (1 - (lg_sl ([.ref a0])).length) Slot.unset).toArray = ls at hl ⊢
  have hl : lv_has ls 1 [(0, .ref a0)] := hl
  obtain ⟨hx, hb, hr, hml, hown, hts, hlocks, hK, hA⟩ := id C
  unfold fText_length at hf
  refine lv_aload_n hx hb dText_length_0 rfl (lv_at hl 0 rfl) ?_
  replace hf := g_bd hf
  obtain ⟨v_1, hv_1, hf⟩ := hf
  refine g_getI hx hb hts in_Text hown hK hW (ci := 0) (C := "SecretRows$Text") (T := T_Text) (N := 2) rfl (k := 1) (by decide) (hts _ kw_50) (fun _ h9 => h9) hv_1 dText_length_1 ?_
  cases hf
  exact g_reti hx hb hr hlocks hW hS (Nat.le_of_ble_eq_true rfl) (Nat.le_of_ble_eq_true rfl) dText_length_4

def fText_at (n : Nat) (a0 : Nat) (i1 : Int32) (z : gS) : Option (Int32 × gS) :=
if i1 < 0 then (
some ((-1), z))
else (
(g_fI z a0 0 1).bind fun v_2 =>
if v_2 ≤ i1 then (
some ((-1), z))
else (
(g_fR z a0 0 0).bind fun r_4 =>
r_4.bind fun a_5 =>
(g_len z a_5).bind fun v_6 =>
if i1 < v_6 then (
(g_fR z a0 0 0).bind fun r_8 =>
r_8.bind fun a_9 =>
(g_ldI z .char a_9 i1).bind fun v_10 =>
some (v_10, z))
else (
some ((-1), z))))
set_option maxHeartbeats 4000000 in
set_option maxRecDepth 100000 in
theorem mText_at (l : Launch) (D : va_G) (A : Nat → Prop) (n : Nat) (z z' : gS) (a0 : Nat) (i1 : Int32) (r : Int32) (hf : fText_at n a0 i1 z = some (r, z')) : Met l yText_at wsText_at ({ frames := 0, cells := 0, slots := 0, locals := 0 }) (g_P D vwCl gNN gOO A z [.ref a0, .int i1]) (g_Qi D vwCl A r z') 0 0 A := by
  refine Met.ofW (cc := cText_at) (maxL := 2) (ret := (some .int)) (by decide) rfl ?_
  intro p e s m args below meth c s₁ B hml hv
  obtain ⟨rfl, hW, hK, hA0⟩ := hv
  have C : g_C p s m meth c _ cText_at 2 (some .int) "SecretRows$Text" gW D vwCl gNN gOO A := ⟨B.exec, B.bytes, B.returns, hml, findClass_of_methodNamed B.named, fun w hw => atoms_spec (ws := wsText_at) B.pre w (List.mem_cons_of_mem _ hw), B.notSynchronized, hK, fun q hq => hA0 q (by rw [← hW.1]; exact hq)⟩
  have hS : va_S A s.heap s.heap [] := va_S.rf
  have hl := lv_entry ([.ref a0, .int i1]) (n := 2) (Nat.le_of_ble_eq_true rfl)
  rw [lg_entry_eq]
  generalize (lg_sl ([.ref a0, .int i1]) ++ List.replicate (2 - (lg_sl ([.ref a0, .int i1])).length) Slot.unset).toArray = ls at hl ⊢
  have hl : lv_has ls 2 [(0, .ref a0), (1, .int i1)] := hl
  obtain ⟨hx, hb, hr, hml, hown, hts, hlocks, hK, hA⟩ := id C
  unfold fText_at at hf
  refine lv_iload_n hx hb dText_at_0 rfl (lv_at hl 1 rfl) ?_
  refine lv_if_lt (tgt := 21) hx hb dText_at_1 (by decide) (fun c_1 => ?_) (fun c_1 => ?_)
  · replace hf := g_it c_1 hf
    refine lv_iconst (v := (-1)) hx hb dText_at_21 (by decide) ?_
    refine lv_goto (tgt := 31) hx hb dText_at_22 (by decide) ?_
    cases hf
    exact g_reti hx hb hr hlocks hW hS (Nat.le_of_ble_eq_true rfl) (Nat.le_of_ble_eq_true rfl) dText_at_31
  · replace hf := g_if c_1 hf
    refine lv_iload_n hx hb dText_at_4 rfl (lv_at hl 1 rfl) ?_
    refine lv_aload_n hx hb dText_at_5 rfl (lv_at hl 0 rfl) ?_
    replace hf := g_bd hf
    obtain ⟨v_2, hv_2, hf⟩ := hf
    refine g_getI hx hb hts in_Text hown hK hW (ci := 0) (C := "SecretRows$Text") (T := T_Text) (N := 2) rfl (k := 1) (by decide) (hts _ kw_50) (fun _ h9 => h9) hv_2 dText_at_6 ?_
    refine lv_icmp_ge (tgt := 21) hx hb dText_at_9 (by decide) (fun c_3 => ?_) (fun c_3 => ?_)
    · replace hf := g_it c_3 hf
      refine lv_iconst (v := (-1)) hx hb dText_at_21 (by decide) ?_
      refine lv_goto (tgt := 31) hx hb dText_at_22 (by decide) ?_
      cases hf
      exact g_reti hx hb hr hlocks hW hS (Nat.le_of_ble_eq_true rfl) (Nat.le_of_ble_eq_true rfl) dText_at_31
    · replace hf := g_if c_3 hf
      refine lv_iload_n hx hb dText_at_12 rfl (lv_at hl 1 rfl) ?_
      refine lv_aload_n hx hb dText_at_13 rfl (lv_at hl 0 rfl) ?_
      replace hf := g_bd hf
      obtain ⟨r_4, hr_4, hf⟩ := hf
      refine g_getR hx hb hts in_Text hown hK hW (ci := 0) (C := "SecretRows$Text") (T := T_Text) (N := 2) rfl (k := 0) (by decide) (hts _ kw_49) (fun _ h9 => h9) hr_4 dText_at_14 ?_
      replace hf := g_bd hf
      obtain ⟨a_5, ea_5, hf⟩ := hf
      subst ea_5
      refine W.eq (g2 := F0 m 17 _ [.ref a_5, .int i1]) rfl ?_
      replace hf := g_bd hf
      obtain ⟨v_6, hv_6, hf⟩ := hf
      refine g_alen hx hb hK hW hv_6 dText_at_17 ?_
      refine lv_icmp_lt (tgt := 25) hx hb dText_at_18 (by decide) (fun c_7 => ?_) (fun c_7 => ?_)
      · replace hf := g_it c_7 hf
        refine lv_aload_n hx hb dText_at_25 rfl (lv_at hl 0 rfl) ?_
        replace hf := g_bd hf
        obtain ⟨r_8, hr_8, hf⟩ := hf
        refine g_getR hx hb hts in_Text hown hK hW (ci := 0) (C := "SecretRows$Text") (T := T_Text) (N := 2) rfl (k := 0) (by decide) (hts _ kw_49) (fun _ h9 => h9) hr_8 dText_at_26 ?_
        refine lv_iload_n hx hb dText_at_29 rfl (lv_at hl 1 rfl) ?_
        replace hf := g_bd hf
        obtain ⟨a_9, ea_9, hf⟩ := hf
        subst ea_9
        refine W.eq (g2 := F0 m 30 _ [.int i1, .ref a_9]) rfl ?_
        replace hf := g_bd hf
        obtain ⟨v_10, hv_10, hf⟩ := hf
        refine g_ald_c hx hb hK hW hv_10 dText_at_30 ?_
        cases hf
        exact g_reti hx hb hr hlocks hW hS (Nat.le_of_ble_eq_true rfl) (Nat.le_of_ble_eq_true rfl) dText_at_31
      · replace hf := g_if c_7 hf
        refine lv_iconst (v := (-1)) hx hb dText_at_21 (by decide) ?_
        refine lv_goto (tgt := 31) hx hb dText_at_22 (by decide) ?_
        cases hf
        exact g_reti hx hb hr hlocks hW hS (Nat.le_of_ble_eq_true rfl) (Nat.le_of_ble_eq_true rfl) dText_at_31

def fText_has_L2 (n : Nat) : Nat → Nat → Int32 → Int32 → gS → Option (Int32 × gS)
  | 0, _, _, _, _ => none
  | k + 1, a0b, i1b, i2b, z =>
    (g_fI z a0b 0 1).bind fun v_1 =>
    if v_1 ≤ i2b then (
    some (0, z))
    else (
    (g_is z a0b 0).bind fun _ =>
    g_bp (fText_at n a0b i2b z) fun v_5 z_4 =>
    if v_5 = i1b then (
    some (1, z_4))
    else (
    fText_has_L2 n k a0b i1b (i2b + 1) z_4))
set_option maxHeartbeats 4000000 in
set_option maxRecDepth 100000 in
theorem bText_has_2 {p : Program} {l : Launch} {e : Env} {s : State} {m : MethodId} {args : Array Value} {below : List Frame} {meth : Method} {c : Code} {D : va_G} {A : Nat → Prop} (C : g_C p s m meth c args cText_has 3 (some .boolean) "SecretRows$Text" gW D vwCl gNN gOO A) (n : Nat) {r : Int32} {z' : gS} : ∀ k : Nat, ∀ (a0b : Nat) (i1b : Int32) (i2b : Int32) (z : gS) (H : Heap) (locs : List Loc) (ls : Array Slot), fText_has_L2 n k a0b i1b i2b z = some (r, z') → g_W D vwCl A z s H → va_S A s.heap H locs → lv_has ls 3 [(0, .ref a0b), (1, .int i1b), (2, .int i2b)] → W p l e (headSpec wsText_has ({ frames := 1, cells := 0, slots := 0, locals := 21 })).room s m args below meth c H locs 0 0 (MQ below (g_Qi D vwCl A r z') args s 0 0 A) (F0 m 2 ls []) := by
  obtain ⟨hx, hb, hr, hml, hown, hts, hlocks, hK, hA⟩ := id C
  intro k
  induction k with
  | zero =>
    intro a0b i1b i2b z H locs ls hf
    have hf : (none : Option (Int32 × gS)) = some _ := hf
    cases hf
  | succ k ih =>
    intro a0b i1b i2b z H locs ls hf hW hS hl
    rw [fText_has_L2] at hf
    refine lv_iload_n hx hb dText_has_2 rfl (lv_at hl 2 rfl) ?_
    refine lv_aload_n hx hb dText_has_3 rfl (lv_at hl 0 rfl) ?_
    replace hf := g_bd hf
    obtain ⟨v_1, hv_1, hf⟩ := hf
    refine g_getI hx hb hts in_Text hown hK hW (ci := 0) (C := "SecretRows$Text") (T := T_Text) (N := 2) rfl (k := 1) (by decide) (hts _ kw_50) (fun _ h9 => h9) hv_1 dText_has_4 ?_
    refine lv_icmp_ge (tgt := 27) hx hb dText_has_7 (by decide) (fun c_2 => ?_) (fun c_2 => ?_)
    · replace hf := g_it c_2 hf
      refine lv_iconst (v := 0) hx hb dText_has_27 (by decide) ?_
      cases hf
      exact g_retz hx hb hr rfl hlocks hW hS (Nat.le_of_ble_eq_true rfl) (Nat.le_of_ble_eq_true rfl) dText_has_28
    · replace hf := g_if c_2 hf
      refine lv_aload_n hx hb dText_has_10 rfl (lv_at hl 0 rfl) ?_
      refine lv_iload_n hx hb dText_has_11 rfl (lv_at hl 2 rfl) ?_
      replace hf := g_bd hf
      obtain ⟨_, hi_3, hf⟩ := hf
      replace hf := g_bps hf
      obtain ⟨v_5, z_4, hz_4, hf⟩ := hf
      refine g_goi (g_rV (As := [.int i2b]) (rest := []) ⟨hx, hb, hml, hown, hts⟩ (mText_at l D A n _ _ a0b i2b _ hz_4) (cwV 1 hts (gi_V kw_191 kw_192 kw_193 kw_3 kw_194) rfl rfl rfl ⟨rfl, hdText_at⟩ ⟨Nat.le_of_ble_eq_true rfl, Nat.le_of_ble_eq_true rfl⟩) hK hW hS hA (ci := 0) (T := T_Text) (N := 2) rfl hi_3 rfl hl.1 rfl (Nat.le_of_ble_eq_true rfl) dText_has_12 ⟨Nat.le_of_ble_eq_true rfl, Nat.le_of_ble_eq_true rfl⟩) hS (fun H locs hW hS => ?_)
      refine lv_iload_n hx hb dText_has_15 rfl (lv_at hl 1 rfl) ?_
      refine lv_icmp_ne (tgt := 21) hx hb dText_has_16 (by decide) (fun c_6 => ?_) (fun c_6 => ?_)
      · replace hf := g_if c_6 hf
        refine lv_iinc (v := (i2b + 1)) (lv' := [(2, .int (i2b + 1)), (0, .ref a0b), (1, .int i1b)]) hx hb dText_has_21 hl (k := 2) rfl rfl (by decide) rfl (fun _ hl1 => ?_)
        clear hl
        have hl := hl1
        clear hl1
        refine lv_goto (tgt := 2) hx hb dText_has_24 (by decide) ?_
        exact ih a0b i1b (i2b + 1) _ _ _ _ hf hW hS (lv_sub hl [1, 2, 0] rfl)
      · replace hf := g_it c_6 hf
        refine lv_iconst (v := 1) hx hb dText_has_19 (by decide) ?_
        cases hf
        exact g_retz hx hb hr rfl hlocks hW hS (Nat.le_of_ble_eq_true rfl) (Nat.le_of_ble_eq_true rfl) dText_has_20
def fText_has (n : Nat) (a0 : Nat) (i1 : Int32) (z : gS) : Option (Int32 × gS) :=
fText_has_L2 n n a0 i1 0 z
set_option maxHeartbeats 4000000 in
set_option maxRecDepth 100000 in
theorem mText_has (l : Launch) (D : va_G) (A : Nat → Prop) (n : Nat) (z z' : gS) (a0 : Nat) (i1 : Int32) (r : Int32) (hf : fText_has n a0 i1 z = some (r, z')) : Met l yText_has wsText_has ({ frames := 1, cells := 0, slots := 0, locals := 21 }) (g_P D vwCl gNN gOO A z [.ref a0, .int i1]) (g_Qi D vwCl A r z') 0 0 A := by
  refine Met.ofW (cc := cText_has) (maxL := 3) (ret := (some .boolean)) (by decide) rfl ?_
  intro p e s m args below meth c s₁ B hml hv
  obtain ⟨rfl, hW, hK, hA0⟩ := hv
  have C : g_C p s m meth c _ cText_has 3 (some .boolean) "SecretRows$Text" gW D vwCl gNN gOO A := ⟨B.exec, B.bytes, B.returns, hml, findClass_of_methodNamed B.named, fun w hw => atoms_spec (ws := wsText_has) B.pre w (List.mem_cons_of_mem _ hw), B.notSynchronized, hK, fun q hq => hA0 q (by rw [← hW.1]; exact hq)⟩
  have hS : va_S A s.heap s.heap [] := va_S.rf
  have hl := lv_entry ([.ref a0, .int i1]) (n := 3) (Nat.le_of_ble_eq_true rfl)
  rw [lg_entry_eq]
  generalize (lg_sl ([.ref a0, .int i1]) ++ List.replicate (3 - (lg_sl ([.ref a0, .int i1])).length) Slot.unset).toArray = ls at hl ⊢
  have hl : lv_has ls 3 [(0, .ref a0), (1, .int i1)] := hl
  obtain ⟨hx, hb, hr, hml, hown, hts, hlocks, hK, hA⟩ := id C
  unfold fText_has at hf
  refine lv_iconst (v := 0) hx hb dText_has_0 (by decide) ?_
  refine lv_istore_n (lv' := [(2, .int 0), (0, .ref a0), (1, .int i1)]) hx hb dText_has_1 rfl hl (by decide) rfl (fun _ hl1 => ?_)
  clear hl
  have hl := hl1
  clear hl1
  exact bText_has_2 C n n a0 i1 0 _ _ _ _ hf hW hS (lv_sub hl [1, 2, 0] rfl)

def fMain_tapeCanBeValue (n : Nat) (a0 : Nat) (z : gS) : Option (Int32 × gS) :=
(g_fR z a0 8 4).bind fun r_1 =>
r_1.bind fun a_2 =>
(g_is z a_2 0).bind fun _ =>
g_bp (fText_length n a_2 z) fun v_5 z_4 =>
if v_5 < 4 then (
some (0, z_4))
else (
(g_fR z_4 a0 8 4).bind fun r_7 =>
r_7.bind fun a_8 =>
(g_is z_4 a_8 0).bind fun _ =>
g_bp (fText_length n a_8 z_4) fun v_11 z_10 =>
if 12 < v_11 then (
some (0, z_10))
else (
(g_fR z_10 a0 8 4).bind fun r_13 =>
r_13.bind fun a_14 =>
(g_is z_10 a_14 0).bind fun _ =>
g_bp (fText_has n a_14 32 z_10) fun v_17 z_16 =>
if v_17 = 0 then (
some (1, z_16))
else (
some (0, z_16))))
set_option maxHeartbeats 4000000 in
set_option maxRecDepth 100000 in
theorem mMain_tapeCanBeValue (l : Launch) (D : va_G) (A : Nat → Prop) (n : Nat) (z z' : gS) (a0 : Nat) (r : Int32) (hf : fMain_tapeCanBeValue n a0 z = some (r, z')) : Met l yMain_tapeCanBeValue wsMain_tapeCanBeValue ({ frames := 2, cells := 0, slots := 0, locals := 43 }) (g_P D vwCl gNN gOO A z [.ref a0]) (g_Qi D vwCl A r z') 0 0 A := by
  refine Met.ofW (cc := cMain_tapeCanBeValue) (maxL := 1) (ret := (some .boolean)) (by decide) rfl ?_
  intro p e s m args below meth c s₁ B hml hv
  obtain ⟨rfl, hW, hK, hA0⟩ := hv
  have C : g_C p s m meth c _ cMain_tapeCanBeValue 1 (some .boolean) "SecretRows" gW D vwCl gNN gOO A := ⟨B.exec, B.bytes, B.returns, hml, findClass_of_methodNamed B.named, fun w hw => atoms_spec (ws := wsMain_tapeCanBeValue) B.pre w (List.mem_cons_of_mem _ hw), B.notSynchronized, hK, fun q hq => hA0 q (by rw [← hW.1]; exact hq)⟩
  have hS : va_S A s.heap s.heap [] := va_S.rf
  have hl := lv_entry ([.ref a0]) (n := 1) (Nat.le_of_ble_eq_true rfl)
  rw [lg_entry_eq]
  generalize (lg_sl ([.ref a0]) ++ List.replicate (1 - (lg_sl ([.ref a0])).length) Slot.unset).toArray = ls at hl ⊢
  have hl : lv_has ls 1 [(0, .ref a0)] := hl
  obtain ⟨hx, hb, hr, hml, hown, hts, hlocks, hK, hA⟩ := id C
  unfold fMain_tapeCanBeValue at hf
  refine lv_aload_n hx hb dMain_tapeCanBeValue_0 rfl (lv_at hl 0 rfl) ?_
  replace hf := g_bd hf
  obtain ⟨r_1, hr_1, hf⟩ := hf
  refine g_getR hx hb hts in_Main hown hK hW (ci := 8) (C := "SecretRows") (T := T_Main) (N := 14) rfl (k := 4) (by decide) (hts _ kw_85) (fun _ h9 => h9) hr_1 dMain_tapeCanBeValue_1 ?_
  replace hf := g_bd hf
  obtain ⟨a_2, ea_2, hf⟩ := hf
  subst ea_2
  refine W.eq (g2 := F0 m 4 _ [.ref a_2]) rfl ?_
  replace hf := g_bd hf
  obtain ⟨_, hi_3, hf⟩ := hf
  replace hf := g_bps hf
  obtain ⟨v_5, z_4, hz_4, hf⟩ := hf
  refine g_goi (g_rV (As := []) (rest := []) ⟨hx, hb, hml, hown, hts⟩ (mText_length l D A n _ _ a_2 _ hz_4) (cwV 0 hts (gi_V kw_183 kw_184 kw_185 kw_3 kw_186) rfl rfl rfl ⟨rfl, hdText_length⟩ ⟨Nat.le_of_ble_eq_true rfl, Nat.le_of_ble_eq_true rfl⟩) hK hW hS hA (ci := 0) (T := T_Text) (N := 2) rfl hi_3 rfl hl.1 rfl (Nat.le_of_ble_eq_true rfl) dMain_tapeCanBeValue_4 ⟨Nat.le_of_ble_eq_true rfl, Nat.le_of_ble_eq_true rfl⟩) hS (fun H locs hW hS => ?_)
  refine lv_iconst (v := 4) hx hb dMain_tapeCanBeValue_7 (by decide) ?_
  refine lv_icmp_lt (tgt := 39) hx hb dMain_tapeCanBeValue_8 (by decide) (fun c_6 => ?_) (fun c_6 => ?_)
  · replace hf := g_it c_6 hf
    refine lv_iconst (v := 0) hx hb dMain_tapeCanBeValue_39 (by decide) ?_
    cases hf
    exact g_retz hx hb hr rfl hlocks hW hS (Nat.le_of_ble_eq_true rfl) (Nat.le_of_ble_eq_true rfl) dMain_tapeCanBeValue_40
  · replace hf := g_if c_6 hf
    refine lv_aload_n hx hb dMain_tapeCanBeValue_11 rfl (lv_at hl 0 rfl) ?_
    replace hf := g_bd hf
    obtain ⟨r_7, hr_7, hf⟩ := hf
    refine g_getR hx hb hts in_Main hown hK hW (ci := 8) (C := "SecretRows") (T := T_Main) (N := 14) rfl (k := 4) (by decide) (hts _ kw_85) (fun _ h9 => h9) hr_7 dMain_tapeCanBeValue_12 ?_
    replace hf := g_bd hf
    obtain ⟨a_8, ea_8, hf⟩ := hf
    subst ea_8
    refine W.eq (g2 := F0 m 15 _ [.ref a_8]) rfl ?_
    replace hf := g_bd hf
    obtain ⟨_, hi_9, hf⟩ := hf
    replace hf := g_bps hf
    obtain ⟨v_11, z_10, hz_10, hf⟩ := hf
    refine g_goi (g_rV (As := []) (rest := []) ⟨hx, hb, hml, hown, hts⟩ (mText_length l D A n _ _ a_8 _ hz_10) (cwV 0 hts (gi_V kw_183 kw_184 kw_185 kw_3 kw_186) rfl rfl rfl ⟨rfl, hdText_length⟩ ⟨Nat.le_of_ble_eq_true rfl, Nat.le_of_ble_eq_true rfl⟩) hK hW hS hA (ci := 0) (T := T_Text) (N := 2) rfl hi_9 rfl hl.1 rfl (Nat.le_of_ble_eq_true rfl) dMain_tapeCanBeValue_15 ⟨Nat.le_of_ble_eq_true rfl, Nat.le_of_ble_eq_true rfl⟩) hS (fun H locs hW hS => ?_)
    refine lv_bipush (v := 12) hx hb dMain_tapeCanBeValue_18 (by decide) ?_
    refine lv_icmp_gt (tgt := 39) hx hb dMain_tapeCanBeValue_20 (by decide) (fun c_12 => ?_) (fun c_12 => ?_)
    · replace hf := g_it c_12 hf
      refine lv_iconst (v := 0) hx hb dMain_tapeCanBeValue_39 (by decide) ?_
      cases hf
      exact g_retz hx hb hr rfl hlocks hW hS (Nat.le_of_ble_eq_true rfl) (Nat.le_of_ble_eq_true rfl) dMain_tapeCanBeValue_40
    · replace hf := g_if c_12 hf
      refine lv_aload_n hx hb dMain_tapeCanBeValue_23 rfl (lv_at hl 0 rfl) ?_
      replace hf := g_bd hf
      obtain ⟨r_13, hr_13, hf⟩ := hf
      refine g_getR hx hb hts in_Main hown hK hW (ci := 8) (C := "SecretRows") (T := T_Main) (N := 14) rfl (k := 4) (by decide) (hts _ kw_85) (fun _ h9 => h9) hr_13 dMain_tapeCanBeValue_24 ?_
      refine lv_bipush (v := 32) hx hb dMain_tapeCanBeValue_27 (by decide) ?_
      replace hf := g_bd hf
      obtain ⟨a_14, ea_14, hf⟩ := hf
      subst ea_14
      refine W.eq (g2 := F0 m 29 _ [.int 32, .ref a_14]) rfl ?_
      replace hf := g_bd hf
      obtain ⟨_, hi_15, hf⟩ := hf
      replace hf := g_bps hf
      obtain ⟨v_17, z_16, hz_16, hf⟩ := hf
      refine g_goi (g_rV (As := [.int 32]) (rest := []) ⟨hx, hb, hml, hown, hts⟩ (mText_has l D A n _ _ a_14 32 _ hz_16) (cwV 1 hts (gi_V kw_187 kw_188 kw_189 kw_3 kw_190) rfl rfl rfl ⟨rfl, hdText_has⟩ ⟨Nat.le_of_ble_eq_true rfl, Nat.le_of_ble_eq_true rfl⟩) hK hW hS hA (ci := 0) (T := T_Text) (N := 2) rfl hi_15 rfl hl.1 rfl (Nat.le_of_ble_eq_true rfl) dMain_tapeCanBeValue_29 ⟨Nat.le_of_ble_eq_true rfl, Nat.le_of_ble_eq_true rfl⟩) hS (fun H locs hW hS => ?_)
      refine lv_if_ne (tgt := 39) hx hb dMain_tapeCanBeValue_32 (by decide) (fun c_18 => ?_) (fun c_18 => ?_)
      · replace hf := g_if c_18 hf
        refine lv_iconst (v := 0) hx hb dMain_tapeCanBeValue_39 (by decide) ?_
        cases hf
        exact g_retz hx hb hr rfl hlocks hW hS (Nat.le_of_ble_eq_true rfl) (Nat.le_of_ble_eq_true rfl) dMain_tapeCanBeValue_40
      · replace hf := g_it c_18 hf
        refine lv_iconst (v := 1) hx hb dMain_tapeCanBeValue_35 (by decide) ?_
        refine lv_goto (tgt := 40) hx hb dMain_tapeCanBeValue_36 (by decide) ?_
        cases hf
        exact g_retz hx hb hr rfl hlocks hW hS (Nat.le_of_ble_eq_true rfl) (Nat.le_of_ble_eq_true rfl) dMain_tapeCanBeValue_40

def fText_agrees_L17 (n : Nat) : Nat → Nat → Nat → Int32 → Int32 → Int32 → gS → Option (Int32 × gS)
  | 0, _, _, _, _, _, _ => none
  | k + 1, a0b, a1b, i2b, i3b, i4b, z =>
    if i3b ≤ i4b then (
    some (1, z))
    else (
    (g_is z a0b 0).bind fun _ =>
    g_bp (fText_at n a0b i4b z) fun v_6 z_5 =>
    (g_is z_5 a1b 0).bind fun _ =>
    g_bp (fText_at n a1b (i2b + i4b) z_5) fun v_9 z_8 =>
    if v_6 = v_9 then (
    fText_agrees_L17 n k a0b a1b i2b i3b (i4b + 1) z_8)
    else (
    some (0, z_8)))
set_option maxHeartbeats 4000000 in
set_option maxRecDepth 100000 in
theorem bText_agrees_17 {p : Program} {l : Launch} {e : Env} {s : State} {m : MethodId} {args : Array Value} {below : List Frame} {meth : Method} {c : Code} {D : va_G} {A : Nat → Prop} (C : g_C p s m meth c args cText_agrees 5 (some .boolean) "SecretRows$Text" gW D vwCl gNN gOO A) (n : Nat) {r : Int32} {z' : gS} : ∀ k : Nat, ∀ (a0b : Nat) (a1b : Nat) (i2b : Int32) (i3b : Int32) (i4b : Int32) (z : gS) (H : Heap) (locs : List Loc) (ls : Array Slot), fText_agrees_L17 n k a0b a1b i2b i3b i4b z = some (r, z') → g_W D vwCl A z s H → va_S A s.heap H locs → lv_has ls 5 [(0, .ref a0b), (1, .ref a1b), (2, .int i2b), (3, .int i3b), (4, .int i4b)] → W p l e (headSpec wsText_agrees ({ frames := 1, cells := 0, slots := 0, locals := 21 })).room s m args below meth c H locs 0 0 (MQ below (g_Qi D vwCl A r z') args s 0 0 A) (F0 m 17 ls []) := by
  obtain ⟨hx, hb, hr, hml, hown, hts, hlocks, hK, hA⟩ := id C
  intro k
  induction k with
  | zero =>
    intro a0b a1b i2b i3b i4b z H locs ls hf
    have hf : (none : Option (Int32 × gS)) = some _ := hf
    cases hf
  | succ k ih =>
    intro a0b a1b i2b i3b i4b z H locs ls hf hW hS hl
    rw [fText_agrees_L17] at hf
    refine lv_iload hx hb dText_agrees_17 (lv_at hl 4 rfl) ?_
    refine lv_iload_n hx hb dText_agrees_19 rfl (lv_at hl 3 rfl) ?_
    refine lv_icmp_ge (tgt := 48) hx hb dText_agrees_20 (by decide) (fun c_3 => ?_) (fun c_3 => ?_)
    · replace hf := g_it c_3 hf
      refine lv_iconst (v := 1) hx hb dText_agrees_48 (by decide) ?_
      cases hf
      exact g_retz hx hb hr rfl hlocks hW hS (Nat.le_of_ble_eq_true rfl) (Nat.le_of_ble_eq_true rfl) dText_agrees_49
    · replace hf := g_if c_3 hf
      refine lv_aload_n hx hb dText_agrees_23 rfl (lv_at hl 0 rfl) ?_
      refine lv_iload hx hb dText_agrees_24 (lv_at hl 4 rfl) ?_
      replace hf := g_bd hf
      obtain ⟨_, hi_4, hf⟩ := hf
      replace hf := g_bps hf
      obtain ⟨v_6, z_5, hz_5, hf⟩ := hf
      refine g_goi (g_rV (As := [.int i4b]) (rest := []) ⟨hx, hb, hml, hown, hts⟩ (mText_at l D A n _ _ a0b i4b _ hz_5) (cwV 1 hts (gi_V kw_191 kw_192 kw_193 kw_3 kw_194) rfl rfl rfl ⟨rfl, hdText_at⟩ ⟨Nat.le_of_ble_eq_true rfl, Nat.le_of_ble_eq_true rfl⟩) hK hW hS hA (ci := 0) (T := T_Text) (N := 2) rfl hi_4 rfl hl.1 rfl (Nat.le_of_ble_eq_true rfl) dText_agrees_26 ⟨Nat.le_of_ble_eq_true rfl, Nat.le_of_ble_eq_true rfl⟩) hS (fun H locs hW hS => ?_)
      refine lv_aload_n hx hb dText_agrees_29 rfl (lv_at hl 1 rfl) ?_
      refine lv_iload_n hx hb dText_agrees_30 rfl (lv_at hl 2 rfl) ?_
      refine lv_iload hx hb dText_agrees_31 (lv_at hl 4 rfl) ?_
      refine lv_iadd hx hb dText_agrees_33 ?_
      replace hf := g_bd hf
      obtain ⟨_, hi_7, hf⟩ := hf
      replace hf := g_bps hf
      obtain ⟨v_9, z_8, hz_8, hf⟩ := hf
      refine g_goi (g_rV (As := [.int (i2b + i4b)]) (rest := [.int v_6]) ⟨hx, hb, hml, hown, hts⟩ (mText_at l D A n _ _ a1b (i2b + i4b) _ hz_8) (cwV 1 hts (gi_V kw_191 kw_192 kw_193 kw_3 kw_194) rfl rfl rfl ⟨rfl, hdText_at⟩ ⟨Nat.le_of_ble_eq_true rfl, Nat.le_of_ble_eq_true rfl⟩) hK hW hS hA (ci := 0) (T := T_Text) (N := 2) rfl hi_7 rfl hl.1 rfl (Nat.le_of_ble_eq_true rfl) dText_agrees_34 ⟨Nat.le_of_ble_eq_true rfl, Nat.le_of_ble_eq_true rfl⟩) hS (fun H locs hW hS => ?_)
      refine lv_icmp_eq (tgt := 42) hx hb dText_agrees_37 (by decide) (fun c_10 => ?_) (fun c_10 => ?_)
      · replace hf := g_it c_10 hf
        refine lv_iinc (v := (i4b + 1)) (lv' := [(4, .int (i4b + 1)), (0, .ref a0b), (1, .ref a1b), (2, .int i2b), (3, .int i3b)]) hx hb dText_agrees_42 hl (k := 4) rfl rfl (by decide) rfl (fun _ hl1 => ?_)
        clear hl
        have hl := hl1
        clear hl1
        refine lv_goto (tgt := 17) hx hb dText_agrees_45 (by decide) ?_
        exact ih a0b a1b i2b i3b (i4b + 1) _ _ _ _ hf hW hS (lv_sub hl [1, 2, 3, 4, 0] rfl)
      · replace hf := g_if c_10 hf
        refine lv_iconst (v := 0) hx hb dText_agrees_40 (by decide) ?_
        cases hf
        exact g_retz hx hb hr rfl hlocks hW hS (Nat.le_of_ble_eq_true rfl) (Nat.le_of_ble_eq_true rfl) dText_agrees_41
def fText_agrees (n : Nat) (a0 : Nat) (a1 : Nat) (i2 : Int32) (z : gS) : Option (Int32 × gS) :=
(g_fI z a0 0 1).bind fun v_1 =>
(g_fI z a1 0 1).bind fun v_2 =>
fText_agrees_L17 n n a0 a1 i2 ((if (v_2 - i2) < v_1 then (v_2 - i2) else v_1)) 0 z
set_option maxHeartbeats 4000000 in
set_option maxRecDepth 100000 in
theorem mText_agrees (l : Launch) (D : va_G) (A : Nat → Prop) (n : Nat) (z z' : gS) (a0 : Nat) (a1 : Nat) (i2 : Int32) (r : Int32) (hf : fText_agrees n a0 a1 i2 z = some (r, z')) : Met l yText_agrees wsText_agrees ({ frames := 1, cells := 0, slots := 0, locals := 21 }) (g_P D vwCl gNN gOO A z [.ref a0, .ref a1, .int i2]) (g_Qi D vwCl A r z') 0 0 A := by
  refine Met.ofW (cc := cText_agrees) (maxL := 5) (ret := (some .boolean)) (by decide) rfl ?_
  intro p e s m args below meth c s₁ B hml hv
  obtain ⟨rfl, hW, hK, hA0⟩ := hv
  have C : g_C p s m meth c _ cText_agrees 5 (some .boolean) "SecretRows$Text" gW D vwCl gNN gOO A := ⟨B.exec, B.bytes, B.returns, hml, findClass_of_methodNamed B.named, fun w hw => atoms_spec (ws := wsText_agrees) B.pre w (List.mem_cons_of_mem _ hw), B.notSynchronized, hK, fun q hq => hA0 q (by rw [← hW.1]; exact hq)⟩
  have hS : va_S A s.heap s.heap [] := va_S.rf
  have hl := lv_entry ([.ref a0, .ref a1, .int i2]) (n := 5) (Nat.le_of_ble_eq_true rfl)
  rw [lg_entry_eq]
  generalize (lg_sl ([.ref a0, .ref a1, .int i2]) ++ List.replicate (5 - (lg_sl ([.ref a0, .ref a1, .int i2])).length) Slot.unset).toArray = ls at hl ⊢
  have hl : lv_has ls 5 [(0, .ref a0), (1, .ref a1), (2, .int i2)] := hl
  obtain ⟨hx, hb, hr, hml, hown, hts, hlocks, hK, hA⟩ := id C
  unfold fText_agrees at hf
  refine lv_aload_n hx hb dText_agrees_0 rfl (lv_at hl 0 rfl) ?_
  replace hf := g_bd hf
  obtain ⟨v_1, hv_1, hf⟩ := hf
  refine g_getI hx hb hts in_Text hown hK hW (ci := 0) (C := "SecretRows$Text") (T := T_Text) (N := 2) rfl (k := 1) (by decide) (hts _ kw_50) (fun _ h9 => h9) hv_1 dText_agrees_1 ?_
  refine lv_aload_n hx hb dText_agrees_4 rfl (lv_at hl 1 rfl) ?_
  replace hf := g_bd hf
  obtain ⟨v_2, hv_2, hf⟩ := hf
  refine g_getI hx hb hts in_Text hown hK hW (ci := 0) (C := "SecretRows$Text") (T := T_Text) (N := 2) rfl (k := 1) (by decide) (hts _ kw_50) (fun _ h9 => h9) hv_2 dText_agrees_5 ?_
  refine lv_iload_n hx hb dText_agrees_8 rfl (lv_at hl 2 rfl) ?_
  refine lv_isub hx hb dText_agrees_9 ?_
  refine va_mmin hx hb (by rw [hml]; exact hl.1.symm) hown (hts _ kw_211) (hts _ kw_212) (hts _ kw_4) (hts _ kw_213) (Nat.le_of_ble_eq_true rfl) (Nat.le_of_ble_eq_true rfl) (Nat.le_of_ble_eq_true rfl) (Nat.le_of_ble_eq_true rfl) dText_agrees_10 ?_
  refine lv_istore_n (lv' := [(3, .int (if (v_2 - i2) < v_1 then (v_2 - i2) else v_1)), (0, .ref a0), (1, .ref a1), (2, .int i2)]) hx hb dText_agrees_13 rfl hl (by decide) rfl (fun _ hl1 => ?_)
  clear hl
  have hl := hl1
  clear hl1
  refine lv_iconst (v := 0) hx hb dText_agrees_14 (by decide) ?_
  refine lv_istore (lv' := [(4, .int 0), (3, .int (if (v_2 - i2) < v_1 then (v_2 - i2) else v_1)), (0, .ref a0), (1, .ref a1), (2, .int i2)]) hx hb dText_agrees_15 hl (by decide) rfl (fun _ hl1 => ?_)
  clear hl
  have hl := hl1
  clear hl1
  exact bText_agrees_17 C n n a0 a1 i2 ((if (v_2 - i2) < v_1 then (v_2 - i2) else v_1)) 0 _ _ _ _ hf hW hS (lv_sub hl [2, 3, 4, 1, 0] rfl)
end
