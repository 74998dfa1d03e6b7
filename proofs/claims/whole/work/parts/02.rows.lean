section GR
variable {p : Program} {l : Launch} {e : Env} {R : Room} {s : State} {m : MethodId} {args : Array Value} {below : List Frame} {meth : Method} {c : Code} {H : Heap} {locs : List Loc} {cells slots : Nat} {Q : State → Prop}
variable {cc : ByteArray} {pc : Nat} {ls : Array Slot} {rest : List Value} {D : va_G} {cl : List vw_C} {A : Nat → Prop} {a : Nat} {z z1 : gS} {H0 : Heap} {nn : List Cond} {oo : List String}
/-- getfield of an int -/
theorem g_getI (hexec : p.tables.exec = Jvm.exec) (hb : c.code = cc) {own ref C : String} {T : u_T} {N ci index : Nat} {Ts : List Cond} (hts : ∀ w ∈ Ts, w.before args s = true) (hin : ∀ w ∈ u_ws C T N, w ∈ Ts) (hown : s.vm.findClass own = some m.cls) (hK : g_K D cl nn oo s) (hW : g_W D cl A z s H) (hc : cl[ci]? = some (C, T, N)) {k : Nat} (hk : k < N) (hlink : (Cond.fieldLink own index ref (T k).2.1 (T k).2.2.1).before args s = true) (hsame : ∀ x, s.fieldFound? (T k).1 (T k).2.1 (T k).2.2.1 = some x → s.fieldFound? ref (T k).2.1 (T k).2.2.1 = some x) {v : Int32} (hv : g_fI z a ci k = some v) (hdg : decode cc pc = .ok (.getfield index, 3))
    (kk : W p l e R s m args below meth c H locs cells slots Q (F0 m (pc + 3) ls (.int v :: rest))) : W p l e R s m args below meth c H locs cells slots Q (F0 m pc ls (.ref a :: rest)) := by
  obtain ⟨fs, h1, h2⟩ := g_bd hv
  have h3 := (hW.2 a _ (g_o_spec h1)).2
  exact va_get (q0 := 0) hexec hb hts hin hown hK.1 (g_P1 (q := (a, .inr (ci, fs))) h3) rfl hc k hk hlink hsame (g_vI_spec h2) hdg kk
theorem g_getR (hexec : p.tables.exec = Jvm.exec) (hb : c.code = cc) {own ref C : String} {T : u_T} {N ci index : Nat} {Ts : List Cond} (hts : ∀ w ∈ Ts, w.before args s = true) (hin : ∀ w ∈ u_ws C T N, w ∈ Ts) (hown : s.vm.findClass own = some m.cls) (hK : g_K D cl nn oo s) (hW : g_W D cl A z s H) (hc : cl[ci]? = some (C, T, N)) {k : Nat} (hk : k < N) (hlink : (Cond.fieldLink own index ref (T k).2.1 (T k).2.2.1).before args s = true) (hsame : ∀ x, s.fieldFound? (T k).1 (T k).2.1 (T k).2.2.1 = some x → s.fieldFound? ref (T k).2.1 (T k).2.2.1 = some x) {v : Option Nat} (hv : g_fR z a ci k = some v) (hdg : decode cc pc = .ok (.getfield index, 3))
    (kk : W p l e R s m args below meth c H locs cells slots Q (F0 m (pc + 3) ls (va_rf v :: rest))) : W p l e R s m args below meth c H locs cells slots Q (F0 m pc ls (.ref a :: rest)) := by
  obtain ⟨fs, h1, h2⟩ := g_bd hv
  have h3 := (hW.2 a _ (g_o_spec h1)).2
  exact va_get (q0 := 0) hexec hb hts hin hown hK.1 (g_P1 (q := (a, .inr (ci, fs))) h3) rfl hc k hk hlink hsame (g_vR_spec h2) hdg kk
/-- the same of a nest mate's private field -/
theorem g_getIN (hexec : p.tables.exec = Jvm.exec) (hb : c.code = cc) {own ref C host : String} {T : u_T} {N ci index : Nat} {Ts : List Cond} (hts : ∀ w ∈ Ts, w.before args s = true) (hin : ∀ w ∈ u_ws C T N, w ∈ Ts) (hown : s.vm.findClass own = some m.cls) (hK : g_K D cl nn oo s) (hW : g_W D cl A z s H) (hc : cl[ci]? = some (C, T, N)) {k : Nat} (hk : k < N) (hlink : Cond.fieldLinkNest own index ref (T k).2.1 (T k).2.2.1 host ∈ nn) (hsame : ∀ x, s.fieldFound? (T k).1 (T k).2.1 (T k).2.2.1 = some x → s.fieldFound? ref (T k).2.1 (T k).2.2.1 = some x) {v : Int32} (hv : g_fI z a ci k = some v) (hdg : decode cc pc = .ok (.getfield index, 3))
    (kk : W p l e R s m args below meth c H locs cells slots Q (F0 m (pc + 3) ls (.int v :: rest))) : W p l e R s m args below meth c H locs cells slots Q (F0 m pc ls (.ref a :: rest)) := by
  obtain ⟨fs, h1, h2⟩ := g_bd hv
  have h3 := (hW.2 a _ (g_o_spec h1)).2
  exact va_getN (q0 := 0) (host := host) hexec hb hts hin hown hK.1 (g_P1 (q := (a, .inr (ci, fs))) h3) rfl hc k hk (va_Nw.use rfl (hK.nest hlink)) hsame (g_vI_spec h2) hdg kk
theorem g_getRN (hexec : p.tables.exec = Jvm.exec) (hb : c.code = cc) {own ref C host : String} {T : u_T} {N ci index : Nat} {Ts : List Cond} (hts : ∀ w ∈ Ts, w.before args s = true) (hin : ∀ w ∈ u_ws C T N, w ∈ Ts) (hown : s.vm.findClass own = some m.cls) (hK : g_K D cl nn oo s) (hW : g_W D cl A z s H) (hc : cl[ci]? = some (C, T, N)) {k : Nat} (hk : k < N) (hlink : Cond.fieldLinkNest own index ref (T k).2.1 (T k).2.2.1 host ∈ nn) (hsame : ∀ x, s.fieldFound? (T k).1 (T k).2.1 (T k).2.2.1 = some x → s.fieldFound? ref (T k).2.1 (T k).2.2.1 = some x) {v : Option Nat} (hv : g_fR z a ci k = some v) (hdg : decode cc pc = .ok (.getfield index, 3))
    (kk : W p l e R s m args below meth c H locs cells slots Q (F0 m (pc + 3) ls (va_rf v :: rest))) : W p l e R s m args below meth c H locs cells slots Q (F0 m pc ls (.ref a :: rest)) := by
  obtain ⟨fs, h1, h2⟩ := g_bd hv
  have h3 := (hW.2 a _ (g_o_spec h1)).2
  exact va_getN (q0 := 0) (host := host) hexec hb hts hin hown hK.1 (g_P1 (q := (a, .inr (ci, fs))) h3) rfl hc k hk (va_Nw.use rfl (hK.nest hlink)) hsame (g_vR_spec h2) hdg kk
theorem g_put (hexec : p.tables.exec = Jvm.exec) (hb : c.code = cc) {own ref C : String} {T : u_T} {N ci index : Nat} {Ts : List Cond} (hts : ∀ w ∈ Ts, w.before args s = true) (hin : ∀ w ∈ u_ws C T N, w ∈ Ts) (ty0 : Nat → FieldType) (hty : ∀ k, k < N → parseFieldDescriptor (T k).2.2.1 = some (ty0 k)) (hnm : ∀ a, a < N → ∀ b, b < N → a ≠ b → (T a).2.1 ≠ (T b).2.1) (hown : s.vm.findClass own = some m.cls) (hK : g_K D cl nn oo s) (hW : g_W D cl A z s H) (hS0 : va_S A H0 H locs) (hc : cl[ci]? = some (C, T, N)) {k : Nat} (hk : k < N) (hlink : (Cond.fieldLink own index ref (T k).2.1 (T k).2.2.1).before args s = true) (hsame : ∀ x, s.fieldFound? (T k).1 (T k).2.1 (T k).2.2.1 = some x → s.fieldFound? ref (T k).2.1 (T k).2.2.1 = some x) (hfin : (T k).2.2.2 = false) {ty : FieldType} {v : Value} (hd : parseFieldDescriptor (T k).2.2.1 = some ty) (hn : narrow ty v = v) (hfit : fits ty v = true) (hv : g_pF z a ci k v = some z1)
    (hdg : decode cc pc = .ok (.putfield index, 3)) (kk : ∀ (H1 : Heap) (locs1 : List Loc), g_W D cl A z1 s H1 → va_S A H0 H1 locs1 → W p l e R s m args below meth c H1 locs1 cells slots Q (F0 m (pc + 3) ls rest)) : W p l e R s m args below meth c H locs cells slots Q (F0 m pc ls (v :: .ref a :: rest)) := by
  obtain ⟨fs, h1, h2⟩ := g_bd hv
  have hl : k < fs.length := by
    by_cases h : k < fs.length
    · exact h
    · rw [if_neg h] at h2; cases h2
  rw [if_pos hl] at h2
  cases h2
  obtain ⟨hA, h3⟩ := hW.2 a _ (g_o_spec h1)
  have hap := va_apart (own := own) hts hin ty0 hty hnm hK.1 hc
  obtain ⟨r, h4, cell, q1, q2, q3, q4⟩ := h3
  have hr : r = (C, T, N) := Option.some.inj (h4.symm.trans hc)
  subst hr
  obtain ⟨hS, hfc, kC, hkC, hkind⟩ := hK.1.1 ci _ hc
  obtain ⟨cf, kf, fi, f, hi, hsl⟩ := hS k hk
  have hlay := hts _ (hin _ (u_in_lay hk))
  unfold u_lay at hlay
  rw [if_neg (by rw [hfin]; decide)] at hlay
  have hst := (u_facts hfc hkC (u_lays hts hin hk) hi).1
  have h6 := u_store hfc hkC hkind hlay hi hd hn hfit
  refine W.putK hexec hb (f := f) ⟨hown, hlink, ⟨_, _, _, hsame _ hi⟩, hst⟩ (by rw [q2]; exact h6) q1 q3 (by rw [hsl]; exact k2_hasslot (q4 k hk)) rfl rfl hdg fun H' e1 e2 e3 => ?_
  rw [hsl] at e1 ⊢
  exact kk H' _ (hW.set hA (x := .inr (ci, fs.set k v)) ⟨_, hc, t_OB.to (V := updV (vp_V fs) k v) ⟨_, e1, q2, q3, t_set q4 hap hk v⟩ (fun j _ => vp_updV_set hl v j)⟩ e2 e3) (hS0.put e2 e3 hA)
theorem g_putN (hexec : p.tables.exec = Jvm.exec) (hb : c.code = cc) {own ref C host : String} {T : u_T} {N ci index : Nat} {Ts : List Cond} (hts : ∀ w ∈ Ts, w.before args s = true) (hin : ∀ w ∈ u_ws C T N, w ∈ Ts) (ty0 : Nat → FieldType) (hty : ∀ k, k < N → parseFieldDescriptor (T k).2.2.1 = some (ty0 k)) (hnm : ∀ a, a < N → ∀ b, b < N → a ≠ b → (T a).2.1 ≠ (T b).2.1) (hown : s.vm.findClass own = some m.cls) (hK : g_K D cl nn oo s) (hW : g_W D cl A z s H) (hS0 : va_S A H0 H locs) (hc : cl[ci]? = some (C, T, N)) {k : Nat} (hk : k < N) (hlink : Cond.fieldLinkNest own index ref (T k).2.1 (T k).2.2.1 host ∈ nn) (hsame : ∀ x, s.fieldFound? (T k).1 (T k).2.1 (T k).2.2.1 = some x → s.fieldFound? ref (T k).2.1 (T k).2.2.1 = some x) (hfin : (T k).2.2.2 = false) {ty : FieldType} {v : Value} (hd : parseFieldDescriptor (T k).2.2.1 = some ty) (hn : narrow ty v = v) (hfit : fits ty v = true) (hv : g_pF z a ci k v = some z1)
    (hdg : decode cc pc = .ok (.putfield index, 3)) (kk : ∀ (H1 : Heap) (locs1 : List Loc), g_W D cl A z1 s H1 → va_S A H0 H1 locs1 → W p l e R s m args below meth c H1 locs1 cells slots Q (F0 m (pc + 3) ls rest)) : W p l e R s m args below meth c H locs cells slots Q (F0 m pc ls (v :: .ref a :: rest)) := by
  obtain ⟨fs, h1, h2⟩ := g_bd hv
  have hl : k < fs.length := by
    by_cases h : k < fs.length
    · exact h
    · rw [if_neg h] at h2; cases h2
  rw [if_pos hl] at h2
  cases h2
  obtain ⟨hA, h3⟩ := hW.2 a _ (g_o_spec h1)
  have hap := va_apart (own := own) hts hin ty0 hty hnm hK.1 hc
  obtain ⟨r, h4, cell, q1, q2, q3, q4⟩ := h3
  have hr : r = (C, T, N) := Option.some.inj (h4.symm.trans hc)
  subst hr
  obtain ⟨hS, hfc, kC, hkC, hkind⟩ := hK.1.1 ci _ hc
  obtain ⟨cf, kf, fi, f, hi, hsl⟩ := hS k hk
  have hlay := hts _ (hin _ (u_in_lay hk))
  unfold u_lay at hlay
  rw [if_neg (by rw [hfin]; decide)] at hlay
  have hst := (u_facts hfc hkC (u_lays hts hin hk) hi).1
  have h6 := u_store hfc hkC hkind hlay hi hd hn hfit
  refine va_WputK (host := host) hexec hb (f := f) hown (va_Nw.use rfl (hK.nest hlink)) (hsame _ hi) hst (by rw [q2]; exact h6) q1 q3 (by rw [hsl]; exact k2_hasslot (q4 k hk)) rfl rfl hdg fun H' e1 e2 e3 => ?_
  rw [hsl] at e1 ⊢
  exact kk H' _ (hW.set hA (x := .inr (ci, fs.set k v)) ⟨_, hc, t_OB.to (V := updV (vp_V fs) k v) ⟨_, e1, q2, q3, t_set q4 hap hk v⟩ (fun j _ => vp_updV_set hl v j)⟩ e2 e3) (hS0.put e2 e3 hA)
theorem g_putF (hexec : p.tables.exec = Jvm.exec) (hb : c.code = cc) {own ref C : String} {T : u_T} {N ci index : Nat} {Ts : List Cond} (hts : ∀ w ∈ Ts, w.before args s = true) (hin : ∀ w ∈ u_ws C T N, w ∈ Ts) (ty0 : Nat → FieldType) (hty : ∀ k, k < N → parseFieldDescriptor (T k).2.2.1 = some (ty0 k)) (hnm : ∀ a, a < N → ∀ b, b < N → a ≠ b → (T a).2.1 ≠ (T b).2.1) (hown : s.vm.findClass own = some m.cls) (hK : g_K D cl nn oo s) (hW : g_W D cl A z s H) (hS0 : va_S A H0 H locs) (hc : cl[ci]? = some (C, T, N)) {k : Nat} (hk : k < N) (hlink : (Cond.fieldLink own index ref (T k).2.1 (T k).2.2.1).before args s = true) (hsame : ∀ x, s.fieldFound? (T k).1 (T k).2.1 (T k).2.2.1 = some x → s.fieldFound? ref (T k).2.1 (T k).2.2.1 = some x) (hfin : (T k).2.2.2 = true) (hin2 : meth.name = "<init>") (hdecl : (T k).1 = own) {ty : FieldType} {v : Value} (hd : parseFieldDescriptor (T k).2.2.1 = some ty) (hn : narrow ty v = v) (hfit : fits ty v = true) (hv : g_pF z a ci k v = some z1)
    (hdg : decode cc pc = .ok (.putfield index, 3)) (kk : ∀ (H1 : Heap) (locs1 : List Loc), g_W D cl A z1 s H1 → va_S A H0 H1 locs1 → W p l e R s m args below meth c H1 locs1 cells slots Q (F0 m (pc + 3) ls rest)) : W p l e R s m args below meth c H locs cells slots Q (F0 m pc ls (v :: .ref a :: rest)) := by
  obtain ⟨fs, h1, h2⟩ := g_bd hv
  have hl : k < fs.length := by
    by_cases h : k < fs.length
    · exact h
    · rw [if_neg h] at h2; cases h2
  rw [if_pos hl] at h2
  cases h2
  obtain ⟨hA, h3⟩ := hW.2 a _ (g_o_spec h1)
  have hap := va_apart (own := own) hts hin ty0 hty hnm hK.1 hc
  obtain ⟨r, h4, cell, q1, q2, q3, q4⟩ := h3
  have hr : r = (C, T, N) := Option.some.inj (h4.symm.trans hc)
  subst hr
  obtain ⟨hS, hfc, kC, hkC, hkind⟩ := hK.1.1 ci _ hc
  obtain ⟨cf, kf, fi, f, hi, hsl⟩ := hS k hk
  have hlay := hts _ (hin _ (u_in_lay hk))
  unfold u_lay at hlay
  rw [if_pos hfin] at hlay
  have hst := (u_facts hfc hkC (u_lays hts hin hk) hi).1
  have hcf : m.cls = cf := by
    obtain ⟨_, _, c', _, _, _, -, -, hf', -, -, -, hown2, -⟩ := Cond.laysFinal_spec hlay
    have e1 : c' = cf := by have := hi.symm.trans hf'; simp at this; exact this.1.symm
    rw [hdecl] at hown2
    rw [← e1]; exact Option.some.inj (hown.symm.trans hown2)
  have h6 := u_fits hfc hkC hkind (Or.inr hlay) hi hd hn hfit
  refine W.putFinK hexec hb hown hlink (hsame _ hi) hst hcf hin2 (by rw [q2]; exact h6) q1 q3 (by rw [hsl]; exact k2_hasslot (q4 k hk)) rfl rfl hdg fun H' e1 e2 e3 => ?_
  rw [hsl] at e1 ⊢
  exact kk H' _ (hW.set hA (x := .inr (ci, fs.set k v)) ⟨_, hc, t_OB.to (V := updV (vp_V fs) k v) ⟨_, e1, q2, q3, t_set q4 hap hk v⟩ (fun j _ => vp_updV_set hl v j)⟩ e2 e3) (hS0.put e2 e3 hA)
/-- new -/
theorem g_newO (hexec : p.tables.exec = Jvm.exec) (hb : c.code = cc) {own C : String} {T : u_T} {N ci index : Nat} {Ts : List Cond} (hts : ∀ w ∈ Ts, w.before args s = true) (hin : ∀ w ∈ u_ws C T N, w ∈ Ts) (ty : Nat → FieldType) (hty : ∀ k, k < N → parseFieldDescriptor (T k).2.2.1 = some (ty k)) (hown : s.vm.findClass own = some m.cls) (hcl : (Cond.classLink own index C).before args s = true) (hinst : (Cond.instantiable C N).before args s = true) (hini : (Cond.initialized C).before args s = true)
    (hK : g_K D cl nn oo s) (hW : g_W D cl A z s H) (hS : va_S A H0 H locs) (hA : ∀ q, H0.size ≤ q → A q) (hc : cl[ci]? = some (C, T, N)) {fs : List Value} (hfs : ∀ j, j < N → defaultValue (ty j) = vp_V fs j) (hcells : cells + 1 ≤ R.cells) (hslots : slots + N ≤ R.slots) {q : Nat} (hv : g_nwO z ci fs = some (q, z1)) (hdg : decode cc pc = .ok (.new index, 3))
    (kk : ∀ H1 : Heap, g_W D cl A z1 s H1 → va_S A H0 H1 locs → W p l e R s m args below meth c H1 locs (cells + 1) (slots + N) Q (F0 m (pc + 3) ls (.ref q :: rest))) : W p l e R s m args below meth c H locs cells slots Q (F0 m pc ls rest) := by
  have hv1 : z.2 = q ∧ g_nw z (.inr (ci, fs)) = z1 := by
    unfold g_nwO at hv
    simpa using hv
  obtain ⟨rfl, rfl⟩ := hv1
  have hKn := hK.1.1 ci _ hc
  refine W.newcK hexec hb hown hcl hinst hini rfl hdg hcells hslots hKn.2.1 hW.1 fun H1 kC hkC e1 z2 o1 => ?_
  have e3 := hW.1
  refine kk H1 (hW.new (hA _ hS.1) ?_ (by rw [e3]; exact z2) (by rw [e3]; exact o1)) ⟨Nat.le_trans hS.1 (by omega), fun x h1 h2 => (o1 x (by have := hS.1; omega)).trans (hS.2.1 x h1 h2), hS.2.2⟩
  rw [e3]
  exact ⟨_, hc, (u_born ty hts hin hKn hkC e1 hty).to hfs⟩
theorem g_newI (hexec : p.tables.exec = Jvm.exec) (hb : c.code = cc) {atype : ArrayType} (harr : (Cond.arrayClass (newarray.typeOf atype)).before args s = true) {ty : FieldType} (hty : newarray.typeOf atype = ty) (hdv : defaultValue ty = .int 0) (hW : g_W D cl A z s H) (hS : va_S A H0 H locs) (hA : ∀ q, H0.size ≤ q → A q)
    {n : Int32} {B q : Nat} (hB : B * componentBytes ty ≤ 536870912) (hcells : cells + 1 ≤ R.cells) (hslots : slots + B ≤ R.slots) (hv : g_nwI z ty n B = some (q, z1)) (hdg : decode cc pc = .ok (.newarray atype, 2))
    (kk : ∀ H1 : Heap, g_W D cl A z1 s H1 → va_S A H0 H1 locs → W p l e R s m args below meth c H1 locs (cells + 1) (slots + B) Q (F0 m (pc + 2) ls (.ref q :: rest))) : W p l e R s m args below meth c H locs cells slots Q (F0 m pc ls (.int n :: rest)) := by
  unfold g_nwI at hv
  by_cases hn : n < 0 ∨ B < n.toNatClampNeg
  · rw [if_pos hn] at hv; cases hv
  · rw [if_neg hn] at hv
    have hn0 : ¬ n < 0 := fun h => hn (Or.inl h)
    have hnB : n.toNatClampNeg ≤ B := Nat.not_lt.mp fun h => hn (Or.inr h)
    have hv1 : z.2 = q ∧ g_nw z (.inl (ty, n.toNatClampNeg, .inl (fun _ => 0))) = z1 := by simpa using hv
    obtain ⟨rfl, rfl⟩ := hv1
    subst hty
    have e3 := hW.1
    refine va_newaK hexec hb harr rfl hdg rfl hn0 rfl (Nat.le_trans (Nat.mul_le_mul_right _ hnB) hB) hcells (by omega) hW.1 fun H1 cA e1 z2 o1 hAr hNm => ?_
    refine W.widen (k := cells + 1) (n := slots + B) (Nat.le_refl _) (by omega) ?_
    refine kk H1 (hW.new (hA _ hS.1) ?_ (by rw [e3]; exact z2) (by rw [e3]; exact o1)) ⟨Nat.le_trans hS.1 (by omega), fun x h1 h2 => (o1 x (by have := hS.1; omega)).trans (hS.2.1 x h1 h2), hS.2.2⟩
    rw [e3]
    refine ⟨cA, ?_, hAr, by cases atype <;> exact hNm⟩
    show H1[z.2]? = some (vp_cell _ _)
    rw [vp_cell_i, e1, hdv]
theorem g_newR (hexec : p.tables.exec = Jvm.exec) (hb : c.code = cc) {own C : String} {index : Nat} (hown : s.vm.findClass own = some m.cls) (hclink : (Cond.classLink own index C).before args s = true) (hK : g_K D cl nn oo s) (hover : C ∈ oo) (hW : g_W D cl A z s H) (hS : va_S A H0 H locs) (hA : ∀ q, H0.size ≤ q → A q)
    {n : Int32} {B q : Nat} (hB : B * 4 ≤ 536870912) (hcells : cells + 1 ≤ R.cells) (hslots : slots + B ≤ R.slots) (hv : g_nwR z (.object C) n B = some (q, z1)) (hdg : decode cc pc = .ok (.anewarray index, 3))
    (kk : ∀ H1 : Heap, g_W D cl A z1 s H1 → va_S A H0 H1 locs → W p l e R s m args below meth c H1 locs (cells + 1) (slots + B) Q (F0 m (pc + 3) ls (.ref q :: rest))) : W p l e R s m args below meth c H locs cells slots Q (F0 m pc ls (.int n :: rest)) := by
  unfold g_nwR at hv
  by_cases hn : n < 0 ∨ B < n.toNatClampNeg
  · rw [if_pos hn] at hv; cases hv
  · rw [if_neg hn] at hv
    have hn0 : ¬ n < 0 := fun h => hn (Or.inl h)
    have hnB : n.toNatClampNeg ≤ B := Nat.not_lt.mp fun h => hn (Or.inr h)
    have hv1 : z.2 = q ∧ g_nw z (.inl (.object C, n.toNatClampNeg, .inr (.inr (.inr (.inr (fun _ => none)))))) = z1 := by simpa using hv
    obtain ⟨rfl, rfl⟩ := hv1
    have e3 := hW.1
    refine W.anew hexec hb hown hclink (va_AO.use (hK.2.2 C hover)) rfl hdg rfl hn0 (Nat.le_trans (Nat.mul_le_mul_right _ hnB) hB) hcells (by omega) fun cA kA comp f1 f2 f3 f4 => ?_
    refine W.widen (k := cells + 1) (n := slots + B) (Nat.le_refl _) (by omega) ?_
    generalize hH1 : H.push ({ cls := cA, slots := Array.replicate n.toNatClampNeg .null, vm := .none } : Cell) = H1
    have z2 : H1.size = H.size + 1 := by rw [← hH1, Array.size_push]
    have e1 : H1[H.size]? = some (arrV cA n.toNatClampNeg (fun _ => .null)) := by rw [← hH1, Array.getElem?_push_size, ← arrV_new]
    have o1 : ∀ q : Nat, q < H.size → H1[q]? = H[q]? := fun q hq => by rw [← hH1, Array.getElem?_push, if_neg (Nat.ne_of_lt hq)]
    have k1 := kk H1 (hW.new (hA _ hS.1) ?_ z2 o1) ⟨Nat.le_trans hS.1 (by omega), fun x h1 h2 => (o1 x (by have := hS.1; omega)).trans (hS.2.1 x h1 h2), hS.2.2⟩
    · rw [← e3] at k1
      exact k1
    refine ⟨cA, ?_, fun N z => ⟨(fun k h => by cases h), kA, f2, comp, f3⟩, kA, comp, f2, f3, f4, f1⟩
    show H1[H.size]? = some (vp_cell _ _)
    rw [vp_cell_q]
    exact e1
/-- arrays: one cell of the ghost heap as the kit's world of one cell -/
theorem g_K1 {cA : ClassId} {ty : FieldType} (hK : g_K D cl nn oo s) (h1 : ArrOfT s cA ty) (h2 : va_RA s cA ty) : va_K D cl [(cA, ty)] s := by
  refine ⟨hK.1.1, fun k q hk => ?_⟩
  have hz : k < 1 := (List.getElem?_eq_some_iff.mp hk).1
  rw [show k = 0 by omega] at hk
  cases hk
  exact ⟨h1, h2⟩
theorem g_ald_i (hexec : p.tables.exec = Jvm.exec) (hb : c.code = cc) (hK : g_K D cl nn oo s) (hW : g_W D cl A z s H) {i v : Int32} (hv : g_ldI z .int a i = some v) (hdg : decode cc pc = .ok (.iaload, 1))
    (kk : W p l e R s m args below meth c H locs cells slots Q (F0 m (pc + 1) ls (.int v :: rest))) : W p l e R s m args below meth c H locs cells slots Q (F0 m pc ls (.int i :: .ref a :: rest)) := by
  obtain ⟨y, h1, h2⟩ := g_bd hv
  obtain ⟨-, cA, h3, h4, h5⟩ := hW.2 a _ (g_aI_spec h1)
  by_cases hn : i < 0 ∨ y.1 ≤ i.toNatClampNeg
  · rw [if_pos hn] at h2; cases h2
  · rw [if_neg hn] at h2
    cases h2
    exact va_iald hexec hb (g_K1 hK h4 h5) (g_P1 h3) 0 0 rfl rfl hn hdg kk
theorem g_ald_c (hexec : p.tables.exec = Jvm.exec) (hb : c.code = cc) (hK : g_K D cl nn oo s) (hW : g_W D cl A z s H) {i v : Int32} (hv : g_ldI z .char a i = some v) (hdg : decode cc pc = .ok (.caload, 1))
    (kk : W p l e R s m args below meth c H locs cells slots Q (F0 m (pc + 1) ls (.int v :: rest))) : W p l e R s m args below meth c H locs cells slots Q (F0 m pc ls (.int i :: .ref a :: rest)) := by
  obtain ⟨y, h1, h2⟩ := g_bd hv
  obtain ⟨-, cA, h3, h4, h5⟩ := hW.2 a _ (g_aI_spec h1)
  by_cases hn : i < 0 ∨ y.1 ≤ i.toNatClampNeg
  · rw [if_pos hn] at h2; cases h2
  · rw [if_neg hn] at h2
    cases h2
    exact va_cald hexec hb (g_K1 hK h4 h5) (g_P1 h3) 0 0 rfl rfl hn hdg kk
theorem g_ald_z (hexec : p.tables.exec = Jvm.exec) (hb : c.code = cc) (hK : g_K D cl nn oo s) (hW : g_W D cl A z s H) {i v : Int32} (hv : g_ldI z .boolean a i = some v) (hdg : decode cc pc = .ok (.baload, 1))
    (kk : W p l e R s m args below meth c H locs cells slots Q (F0 m (pc + 1) ls (.int v :: rest))) : W p l e R s m args below meth c H locs cells slots Q (F0 m pc ls (.int i :: .ref a :: rest)) := by
  obtain ⟨y, h1, h2⟩ := g_bd hv
  obtain ⟨-, cA, h3, h4, h5⟩ := hW.2 a _ (g_aI_spec h1)
  by_cases hn : i < 0 ∨ y.1 ≤ i.toNatClampNeg
  · rw [if_pos hn] at h2; cases h2
  · rw [if_neg hn] at h2
    cases h2
    exact va_zald hexec hb (g_K1 hK h4 h5) (g_P1 h3) 0 0 rfl rfl hn hdg kk
theorem g_ald_r (hexec : p.tables.exec = Jvm.exec) (hb : c.code = cc) (hK : g_K D cl nn oo s) (hW : g_W D cl A z s H) {C : String} {i : Int32} {v : Option Nat} (hv : g_ldR z (.object C) a i = some v) (hdg : decode cc pc = .ok (.aaload, 1))
    (kk : W p l e R s m args below meth c H locs cells slots Q (F0 m (pc + 1) ls (va_rf v :: rest))) : W p l e R s m args below meth c H locs cells slots Q (F0 m pc ls (.int i :: .ref a :: rest)) := by
  obtain ⟨y, h1, h2⟩ := g_bd hv
  obtain ⟨-, cA, h3, h4, h5⟩ := hW.2 a _ (g_aR_spec h1)
  by_cases hn : i < 0 ∨ y.1 ≤ i.toNatClampNeg
  · rw [if_pos hn] at h2; cases h2
  · rw [if_neg hn] at h2
    cases h2
    exact va_aldq hexec hb (g_K1 hK h4 h5) (g_P1 h3) 0 0 rfl rfl hn hdg kk
theorem g_alen (hexec : p.tables.exec = Jvm.exec) (hb : c.code = cc) (hK : g_K D cl nn oo s) (hW : g_W D cl A z s H) {v : Int32} (hv : g_len z a = some v) (hdg : decode cc pc = .ok (.arraylength, 1))
    (kk : W p l e R s m args below meth c H locs cells slots Q (F0 m (pc + 1) ls (.int v :: rest))) : W p l e R s m args below meth c H locs cells slots Q (F0 m pc ls (.ref a :: rest)) := by
  unfold g_len at hv
  split at hv
  · rename_i y hy
    cases hv
    obtain ⟨-, cA, h3, h4, h5⟩ := hW.2 a _ hy
    exact va_alen hexec hb (g_K1 hK h4 h5) (g_P1 h3) 0 0 rfl rfl rfl hdg kk
  · cases hv
theorem g_ast_i (hexec : p.tables.exec = Jvm.exec) (hb : c.code = cc) (hW : g_W D cl A z s H) (hS : va_S A H0 H locs) {i x : Int32} (hv : g_stI z .int a i x = some z1) (hdg : decode cc pc = .ok (.iastore, 1))
    (kk : ∀ (H1 : Heap) (locs1 : List Loc), g_W D cl A z1 s H1 → va_S A H0 H1 locs1 → W p l e R s m args below meth c H1 locs1 cells slots Q (F0 m (pc + 1) ls rest)) : W p l e R s m args below meth c H locs cells slots Q (F0 m pc ls (.int x :: .int i :: .ref a :: rest)) := by
  obtain ⟨y, h1, h2⟩ := g_bd hv
  obtain ⟨hA, cA, h3, h4, h5⟩ := hW.2 a _ (g_aI_spec h1)
  by_cases hn : i < 0 ∨ y.1 ≤ i.toNatClampNeg
  · rw [if_pos hn] at h2; cases h2
  · rw [if_neg hn] at h2
    cases h2
    refine W.iast hexec hb h3 (h4 y.1 (fun j => .int (y.2 j))) (fun q => by cases q) (by show ¬ (i < 0 ∨ (arrV _ _ _).slots.size ≤ _); rw [arrV_size]; exact hn) rfl rfl hdg fun H1 e2 z2 oq => ?_
    refine kk H1 _ (hW.set hA ⟨cA, ?_, h4, h5⟩ z2 oq) (hS.put z2 oq hA)
    show H1[a]? = some (vp_cell _ _)
    rw [e2]
    rw [vp_cell_i, vp_cell_i, arrV_store]
    congr 2
    funext q
    by_cases hq : q = i.toNatClampNeg
    · subst hq
      simp [updV, upd]
    · simp [updV, upd, hq]
theorem g_ast_c (hexec : p.tables.exec = Jvm.exec) (hb : c.code = cc) (hW : g_W D cl A z s H) (hS : va_S A H0 H locs) {i x : Int32} (hv : g_stI z .char a i (vp_nar .char x) = some z1) (hdg : decode cc pc = .ok (.castore, 1))
    (kk : ∀ (H1 : Heap) (locs1 : List Loc), g_W D cl A z1 s H1 → va_S A H0 H1 locs1 → W p l e R s m args below meth c H1 locs1 cells slots Q (F0 m (pc + 1) ls rest)) : W p l e R s m args below meth c H locs cells slots Q (F0 m pc ls (.int x :: .int i :: .ref a :: rest)) := by
  obtain ⟨y, h1, h2⟩ := g_bd hv
  obtain ⟨hA, cA, h3, h4, h5⟩ := hW.2 a _ (g_aI_spec h1)
  by_cases hn : i < 0 ∨ y.1 ≤ i.toNatClampNeg
  · rw [if_pos hn] at h2; cases h2
  · rw [if_neg hn] at h2
    cases h2
    refine W.cast hexec hb h3 (h4 y.1 (fun j => .int (y.2 j))) (fun q => by cases q) (by show ¬ (i < 0 ∨ (arrV _ _ _).slots.size ≤ _); rw [arrV_size]; exact hn) rfl rfl hdg fun H1 e2 z2 oq => ?_
    refine kk H1 _ (hW.set hA ⟨cA, ?_, h4, h5⟩ z2 oq) (hS.put z2 oq hA)
    show H1[a]? = some (vp_cell _ _)
    rw [e2]
    rw [vp_cell_i, vp_cell_i, arrV_store]
    congr 2
    funext q
    by_cases hq : q = i.toNatClampNeg
    · subst hq
      simp [updV, upd, vp_nar]
      try rfl
    · simp [updV, upd, hq]
theorem g_ast_z (hexec : p.tables.exec = Jvm.exec) (hb : c.code = cc) (hW : g_W D cl A z s H) (hS : va_S A H0 H locs) {i x : Int32} (hv : g_stI z .boolean a i (vp_nar .boolean x) = some z1) (hdg : decode cc pc = .ok (.bastore, 1))
    (kk : ∀ (H1 : Heap) (locs1 : List Loc), g_W D cl A z1 s H1 → va_S A H0 H1 locs1 → W p l e R s m args below meth c H1 locs1 cells slots Q (F0 m (pc + 1) ls rest)) : W p l e R s m args below meth c H locs cells slots Q (F0 m pc ls (.int x :: .int i :: .ref a :: rest)) := by
  obtain ⟨y, h1, h2⟩ := g_bd hv
  obtain ⟨hA, cA, h3, h4, h5⟩ := hW.2 a _ (g_aI_spec h1)
  by_cases hn : i < 0 ∨ y.1 ≤ i.toNatClampNeg
  · rw [if_pos hn] at h2; cases h2
  · rw [if_neg hn] at h2
    cases h2
    refine W.zast hexec hb h3 (h4 y.1 (fun j => .int (y.2 j))) (fun q => by cases q) (by show ¬ (i < 0 ∨ (arrV _ _ _).slots.size ≤ _); rw [arrV_size]; exact hn) rfl rfl hdg fun H1 e2 z2 oq => ?_
    refine kk H1 _ (hW.set hA ⟨cA, ?_, h4, h5⟩ z2 oq) (hS.put z2 oq hA)
    show H1[a]? = some (vp_cell _ _)
    rw [e2]
    rw [vp_cell_i, vp_cell_i, arrV_store]
    congr 2
    funext q
    by_cases hq : q = i.toNatClampNeg
    · subst hq
      simp [updV, upd, vp_nar]
      try rfl
    · simp [updV, upd, hq]
theorem g_ast_n (hexec : p.tables.exec = Jvm.exec) (hb : c.code = cc) (hW : g_W D cl A z s H) (hS : va_S A H0 H locs) {C : String} {i : Int32} (hv : g_stR z (.object C) a i none = some z1) (hdg : decode cc pc = .ok (.aastore, 1))
    (kk : ∀ (H1 : Heap) (locs1 : List Loc), g_W D cl A z1 s H1 → va_S A H0 H1 locs1 → W p l e R s m args below meth c H1 locs1 cells slots Q (F0 m (pc + 1) ls rest)) : W p l e R s m args below meth c H locs cells slots Q (F0 m pc ls (.null :: .int i :: .ref a :: rest)) := by
  obtain ⟨y, h1, h2⟩ := g_bd hv
  obtain ⟨hA, cA, h3, h4, h5⟩ := hW.2 a _ (g_aR_spec h1)
  by_cases hn : i < 0 ∨ y.1 ≤ i.toNatClampNeg
  · rw [if_pos hn] at h2; cases h2
  · rw [if_neg hn] at h2
    cases h2
    refine va_WaastN (C := C) hexec hb h3 (h4 y.1 (fun j => va_rf (y.2 j))) (fun h => by cases h) (by show ¬ (i < 0 ∨ (arrV _ _ _).slots.size ≤ _); rw [arrV_size]; exact hn) rfl rfl hdg fun H1 e2 z2 oq => ?_
    refine kk H1 _ (hW.set hA ⟨cA, ?_, h4, h5⟩ z2 oq) (hS.put z2 oq hA)
    show H1[a]? = some (vp_cell _ _)
    rw [e2]
    rw [vp_cell_q, vp_cell_q, arrV_store]
    congr 2
    funext q
    by_cases hq : q = i.toNatClampNeg
    · subst hq
      simp [updV, va_up, va_rf]
    · simp [updV, va_up, hq]
theorem g_ast_r (hexec : p.tables.exec = Jvm.exec) (hb : c.code = cc) (hK : g_K D cl nn oo s) (hW : g_W D cl A z s H) (hS : va_S A H0 H locs) {r : vw_C} {ci v : Nat} (hc : cl[ci]? = some r) {i : Int32} (hi : g_is z v ci = some ()) (hv : g_stR z (.object r.1) a i (some v) = some z1) (hdg : decode cc pc = .ok (.aastore, 1))
    (kk : ∀ (H1 : Heap) (locs1 : List Loc), g_W D cl A z1 s H1 → va_S A H0 H1 locs1 → W p l e R s m args below meth c H1 locs1 cells slots Q (F0 m (pc + 1) ls rest)) : W p l e R s m args below meth c H locs cells slots Q (F0 m pc ls (.ref v :: .int i :: .ref a :: rest)) := by
  obtain ⟨y, h1, h2⟩ := g_bd hv
  obtain ⟨fs, h6, -⟩ := g_bd hi
  obtain ⟨hA, cA, h3, h4, h5⟩ := hW.2 a _ (g_aR_spec h1)
  by_cases hn : i < 0 ∨ y.1 ≤ i.toNatClampNeg
  · rw [if_pos hn] at h2; cases h2
  · rw [if_neg hn] at h2
    cases h2
    have hlt : i.toNatClampNeg < y.1 := Nat.not_le.mp fun q => hn (Or.inr q)
    have h0 : ¬ i < 0 := fun q => hn (Or.inl q)
    obtain ⟨r', hr', cellV, g1, g2, g3, -⟩ := (hW.2 v _ (g_o_spec h6)).2
    have hcls := (hK.1.1 ci r hc).2
    have h5' := h5
    obtain ⟨kA, comp, k1, k2, k3, -⟩ := h5'
    have hcomp : comp = D.1 ci := Option.some.inj (k3.symm.trans hcls.1)
    subst hcomp
    obtain ⟨kC, hkC, -⟩ := hcls.2
    refine W.aast hexec hb h3 (fun q h => by cases h) (fun h => by cases h) k1 k2 rfl hkC ⟨h0, by show _ < (arrV _ _ _).slots.size; rw [arrV_size]; exact hlt⟩ g1 (fun q h => by rw [g3] at h; cases h) (by rw [g2]; exact hkC) (by rw [g2]; exact va_assign hcls) rfl rfl hdg fun H1 e2 z2 oq => ?_
    refine kk H1 _ (hW.set hA ⟨cA, ?_, h4, h5⟩ z2 oq) (hS.put z2 oq hA)
    show H1[a]? = some (vp_cell _ _)
    rw [e2]
    rw [vp_cell_q, vp_cell_q, arrV_store]
    congr 2
    funext q
    by_cases hq : q = i.toNatClampNeg
    · subst hq
      simp [updV, va_up, va_rf]
    · simp [updV, va_up, hq]
end GR
