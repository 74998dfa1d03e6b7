/-! THE LAW: class and reference stand in two ghost heaps that are apart -/
def lA (G : Nat → Option gE) (sz : Nat) : Nat → Prop := fun q => G q ≠ none ∨ sz ≤ q
def lW (D : va_G) (s : State) (H : Heap) (G1 G2 : Nat → Option gE) (sz : Nat) : Prop := g_W D vwCl (fun q => s.heap.size ≤ q) (G1, sz) s H ∧ g_W D vwCl (fun q => s.heap.size ≤ q) (G2, sz) s H ∧ ∀ q, G1 q ≠ none → G2 q = none
theorem lW.swap {D : va_G} {s : State} {H : Heap} {G1 G2 : Nat → Option gE} {sz : Nat} (h : lW D s H G1 G2 sz) : lW D s H G2 G1 sz := by
  refine ⟨h.2.1, h.1, fun q hq => ?_⟩
  cases e : G1 q with
  | none => rfl
  | some x => exact absurd (h.2.2 q (by rw [e]; simp)) hq
theorem l_own {D : va_G} {cl : List vw_C} {A0 : Nat → Prop} {s : State} {H : Heap} {G : Nat → Option gE} {sz : Nat} (h : g_W D cl A0 (G, sz) s H) : g_W D cl (lA G sz) (G, sz) s H :=
  ⟨h.1, fun a x hx => ⟨Or.inl (by rw [show G a = some x from hx]; simp), (h.2 a x hx).2⟩⟩
theorem lW.one {D : va_G} {s : State} {H H1 : Heap} {G1 G2 : Nat → Option gE} {sz : Nat} {z1 : gS} (h : lW D s H G1 G2 sz) (hB : g_W D vwCl (lA G1 sz) z1 s H1) (hk : ∀ q : Nat, q < H.size → ¬ lA G1 sz q → H1[q]? = H[q]?) (hsz : s.heap.size ≤ H.size) : lW D s H1 z1.1 G2 z1.2 := by
  obtain ⟨h1, h2, h3⟩ := h
  have e1 : H.size = sz := h1.1
  refine ⟨⟨hB.1, fun a x hx => ⟨?_, (hB.2 a x hx).2⟩⟩, ⟨hB.1, fun a x hx => ?_⟩, fun q hq => ?_⟩
  · rcases (hB.2 a x hx).1 with h | h
    · cases e : G1 a with
      | none => exact absurd e h
      | some y => exact (h1.2 a y e).1
    · show s.heap.size ≤ a
      omega
  · have g := h2.2 a x hx
    have lt := g_at.lt g.2
    refine ⟨g.1, g_at.kept g.2 (hk a lt ?_)⟩
    intro q
    rcases q with q | q
    · have := h3 a q
      rw [show G2 a = some x from hx] at this
      cases this
    · omega
  · cases e : z1.1 q with
    | none => exact absurd e hq
    | some y =>
      rcases (hB.2 q y e).1 with h | h
      · exact h3 q h
      · exact g_W.fresh h2 h
theorem l_preS {s : State} {H : Heap} {D : va_G} {cl : List vw_C} {nn : List Cond} {oo : List String} {A : Nat → Prop} {z : gS} {av : List Value} (hK : g_K D cl nn oo s) (hW : g_W D cl A z s H) (hA : ∀ q : Nat, z.2 ≤ q → A q) : PreS s H (g_P D cl nn oo A z av) av := by
  refine ⟨g_P.blind, fun U hU hw => ⟨rfl, ?_, hK.warm hw, hA⟩⟩
  rw [hU]
  exact hW.moved hw.alike
section LC
variable {p : Program} {l : Launch} {e : Env} {R : Room} {s : State} {m : MethodId} {args : Array Value} {below : List Frame} {meth : Method} {c : Code} {H : Heap} {locs : List Loc} {cells slots : Nat} {Q : State → Prop}
variable {cc bytes : ByteArray} {pc : Nat} {ls : Array Slot} {rest st0 As : List Value} {D : va_G} {b sz : Nat} {G : Nat → Option gE} {z1 : gS}
variable {y : MethodName} {maxL nL mc ms n index : Nat} {ret : Option FieldType} {ws Ts : List Cond} {rm : Room} {Qc : Array Value → State → Outcome → State → Prop} {own C : String}
theorem l_rV (S : CallFix p m c cc nL s args Ts own) (hM : Met l y ws rm (g_P D vwCl gNN gOO (lA G sz) (G, sz) (.ref b :: As)) Qc mc ms (lA G sz)) (cw : CallW R s args own C index y bytes maxL ret ws rm mc ms n) (hK : g_K D vwCl gNN gOO s) (hW : g_W D vwCl (fun q => s.heap.size ≤ q) (G, sz) s H) {ci N : Nat} {T : u_T} (hc : vwCl[ci]? = some (C, T, N)) (hi : g_is (G, sz) b ci = some ())
    (hn : As.length = n) (hsize : ls.size = nL) (hstack : st0 = As.reverse ++ .ref b :: rest) (hR : (rest.map fun v => v.category).sum ≤ 8) (hdg : decode cc pc = .ok (.invokevirtual index, 3)) (hf : cells + mc ≤ R.cells ∧ slots + ms ≤ R.slots) :
    va_Run p l e R s m args below meth c H locs cells slots mc ms (F0 m pc ls st0) rest (Qc (Value.ref b :: As).toArray) (lA G sz) :=
  va_runV S hM cw ⟨(l_preS hK (l_own hW) (fun q h => Or.inr h)).1, g_recv hK hW hc hi, (l_preS hK (l_own hW) (fun q h => Or.inr h)).2⟩ rfl hn hsize hstack (lv_room hR) hdg hf
theorem l_rI (S : CallFix p m c cc nL s args Ts own) (hM : Met l y ws rm (g_P D vwCl gNN gOO (lA G sz) (G, sz) (.ref b :: As)) Qc mc ms (lA G sz)) (cw : CallB R s args own index y bytes maxL none ws rm mc ms n ∧ y.name = "<init>" ∧ (Cond.instanceMethod y).before args s = true) (hK : g_K D vwCl gNN gOO s) (hW : g_W D vwCl (fun q => s.heap.size ≤ q) (G, sz) s H)
    (hn : As.length = n) (hsize : ls.size = nL) (hstack : st0 = As.reverse ++ .ref b :: rest) (hR : (rest.map fun v => v.category).sum ≤ 8) (hdg : decode cc pc = .ok (.invokespecial index, 3)) (hf : cells + mc ≤ R.cells ∧ slots + ms ≤ R.slots) :
    va_Run p l e R s m args below meth c H locs cells slots mc ms (F0 m pc ls st0) rest (Qc (Value.ref b :: As).toArray) (lA G sz) :=
  va_runI S hM cw (l_preS hK (l_own hW) (fun q h => Or.inr h)) rfl hn hsize hstack (lv_room hR) hdg hf
theorem l_sub (hS : va_S (fun q : Nat => s.heap.size ≤ q) s.heap H locs) (hW : g_W D vwCl (fun q => s.heap.size ≤ q) (G, sz) s H) : ∀ q : Nat, lA G sz q → s.heap.size ≤ q := by
  intro q h
  rcases h with h | h
  · cases e : G q with
    | none => exact absurd e h
    | some y => exact (hW.2 q y e).1
  · have h1 := hS.1
    have h2 : H.size = sz := hW.1
    omega
theorem l_goi {av : Array Value} {r : Int32} (hr : va_Run p l e R s m args below meth c H locs cells slots mc ms (F0 m pc ls st0) rest (g_Qi D vwCl (lA G sz) r z1 av) (lA G sz)) (hS : va_S (fun q : Nat => s.heap.size ≤ q) s.heap H locs) (hW : g_W D vwCl (fun q => s.heap.size ≤ q) (G, sz) s H)
    (kk : ∀ (H1 : Heap) (locs1 : List Loc), g_W D vwCl (lA G sz) z1 s H1 → (∀ q : Nat, q < H.size → ¬ lA G sz q → H1[q]? = H[q]?) → va_S (fun q : Nat => s.heap.size ≤ q) s.heap H1 locs1 → W p l e R s m args below meth c H1 locs1 (cells + mc) (slots + ms) Q (F0 m (pc + 3) ls (.int r :: rest))) : W p l e R s m args below meth c H locs cells slots Q (F0 m pc ls st0) := by
  refine va_calli hr hS (fun q _ h => l_sub hS hW q h) (fun q h => l_sub hS hW q h) (fun r1 u t H1 locs1 ht hvm hw hB hz1 hk1 hS1 => ?_)
  subst hw
  rw [ht] at hB
  exact kk H1 locs1 (hB.moved hvm.symm) hk1 hS1
theorem l_gov {av : Array Value} (hr : va_Run p l e R s m args below meth c H locs cells slots mc ms (F0 m pc ls st0) rest (g_Qv D vwCl (lA G sz) z1 av) (lA G sz)) (hS : va_S (fun q : Nat => s.heap.size ≤ q) s.heap H locs) (hW : g_W D vwCl (fun q => s.heap.size ≤ q) (G, sz) s H)
    (kk : ∀ (H1 : Heap) (locs1 : List Loc), g_W D vwCl (lA G sz) z1 s H1 → (∀ q : Nat, q < H.size → ¬ lA G sz q → H1[q]? = H[q]?) → va_S (fun q : Nat => s.heap.size ≤ q) s.heap H1 locs1 → W p l e R s m args below meth c H1 locs1 (cells + mc) (slots + ms) Q (F0 m (pc + 3) ls rest)) : W p l e R s m args below meth c H locs cells slots Q (F0 m pc ls st0) := by
  refine va_callv hr hS (fun q _ h => l_sub hS hW q h) (fun q h => l_sub hS hW q h) (fun u t H1 locs1 ht hvm hw hB hz1 hk1 hS1 => ?_)
  rw [ht] at hB
  exact kk H1 locs1 (hB.moved hvm.symm) hk1 hS1
end LC
