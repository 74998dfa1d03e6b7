theorem dMain_leak_0 : decode cMain_leak 0 = .ok (.iload_n 1, 1) := by decide +kernel
theorem dMain_leak_1 : decode cMain_leak 1 = .ok (.tableswitch 42 0 2 #[27, 32, 37], 27) := by decide +kernel
theorem dMain_leak_28 : decode cMain_leak 28 = .ok (.aload_n 0, 1) := by decide +kernel
theorem dMain_leak_29 : decode cMain_leak 29 = .ok (.getfield 50, 3) := by decide +kernel
theorem dMain_leak_32 : decode cMain_leak 32 = .ok (.ireturn, 1) := by decide +kernel
theorem dMain_leak_33 : decode cMain_leak 33 = .ok (.aload_n 0, 1) := by decide +kernel
theorem dMain_leak_34 : decode cMain_leak 34 = .ok (.getfield 54, 3) := by decide +kernel
theorem dMain_leak_37 : decode cMain_leak 37 = .ok (.ireturn, 1) := by decide +kernel
theorem dMain_leak_38 : decode cMain_leak 38 = .ok (.aload_n 0, 1) := by decide +kernel
theorem dMain_leak_39 : decode cMain_leak 39 = .ok (.getfield 57, 3) := by decide +kernel
theorem dMain_leak_42 : decode cMain_leak 42 = .ok (.ireturn, 1) := by decide +kernel
theorem dMain_leak_43 : decode cMain_leak 43 = .ok (.iconst (-1), 1) := by decide +kernel
theorem dMain_leak_44 : decode cMain_leak 44 = .ok (.ireturn, 1) := by decide +kernel
def fMain_leak (n : Nat) (a0 : Nat) (i1 : Int32) (z : gS) : Option (Int32 × gS) :=
    if i1 = 0 then (
    (g_fI z a0 8 11).bind fun v_2 =>
    some (v_2, z))
    else (
    if i1 = 1 then (
    (g_fI z a0 8 12).bind fun v_3 =>
    some (v_3, z))
    else (
    if i1 = 2 then (
    (g_fI z a0 8 13).bind fun v_4 =>
    some (v_4, z))
    else (
    some ((-1), z))))
set_option maxHeartbeats 4000000 in
set_option maxRecDepth 100000 in
theorem mMain_leak (l : Launch) (D : va_G) (A : Nat → Prop) (n : Nat) (z z' : gS) (a0 : Nat) (i1 : Int32) (r : Int32) (hf : fMain_leak n a0 i1 z = some (r, z')) : Met l yMain_leak wsMain_leak ({ frames := 0, cells := 0, slots := 0, locals := 0 }) (g_P D vwCl gNN gOO A z [.ref a0, .int i1]) (g_Qi D vwCl A r z') 0 0 A := by
  refine Met.ofW (cc := cMain_leak) (maxL := 2) (ret := (some .int)) (by decide) rfl ?_
  intro p e s m args below meth c s₁ B hml hv
  obtain ⟨rfl, hW, hK, hA0⟩ := hv
  have C : g_C p s m meth c _ cMain_leak 2 (some .int) "SecretRows" gW D vwCl gNN gOO A := ⟨B.exec, B.bytes, B.returns, hml, findClass_of_methodNamed B.named, fun w hw => atoms_spec (ws := wsMain_leak) B.pre w (List.mem_cons_of_mem _ hw), B.notSynchronized, hK, fun q hq => hA0 q (by rw [← hW.1]; exact hq)⟩
  have hS : va_S A s.heap s.heap [] := va_S.rf
  have hl := lv_entry ([.ref a0, .int i1]) (n := 2) (Nat.le_of_ble_eq_true rfl)
  rw [lg_entry_eq]
  generalize (lg_sl ([.ref a0, .int i1]) ++ List.replicate (2 - (lg_sl ([.ref a0, .int i1])).length) Slot.unset).toArray = ls at hl ⊢
  have hl : lv_has ls 2 [(0, .ref a0), (1, .int i1)] := hl
  obtain ⟨hx, hb, hr, hml, hown, hts, hlocks, hK, hA⟩ := id C
  unfold fMain_leak at hf
  refine lv_iload_n hx hb dMain_leak_0 rfl (lv_at hl 1 rfl) ?_
  by_cases c_10 : i1 = 0
  · replace hf := g_it c_10 hf
    refine lv_tableIn (tgt := 28) hx hb dMain_leak_1 (by rw [c_10]; decide) (by rw [c_10]; decide) (by rw [c_10]; rfl) (by decide) ?_
    refine lv_aload_n hx hb dMain_leak_28 rfl (lv_at hl 0 rfl) ?_
    replace hf := g_bd hf
    obtain ⟨v_2, hv_2, hf⟩ := hf
    refine g_getI hx hb hts in_Main hown hK hW (ci := 8) (C := "SecretRows") (T := T_Main) (N := 14) rfl (k := 11) (by decide) (hts _ kw_92) (fun _ h9 => h9) hv_2 dMain_leak_29 ?_
    cases hf
    exact g_reti hx hb hr hlocks hW hS (Nat.le_of_ble_eq_true rfl) (Nat.le_of_ble_eq_true rfl) dMain_leak_32
  · replace hf := g_if c_10 hf
    by_cases c_11 : i1 = 1
    · replace hf := g_it c_11 hf
      refine lv_tableIn (tgt := 33) hx hb dMain_leak_1 (by rw [c_11]; decide) (by rw [c_11]; decide) (by rw [c_11]; rfl) (by decide) ?_
      refine lv_aload_n hx hb dMain_leak_33 rfl (lv_at hl 0 rfl) ?_
      replace hf := g_bd hf
      obtain ⟨v_3, hv_3, hf⟩ := hf
      refine g_getI hx hb hts in_Main hown hK hW (ci := 8) (C := "SecretRows") (T := T_Main) (N := 14) rfl (k := 12) (by decide) (hts _ kw_93) (fun _ h9 => h9) hv_3 dMain_leak_34 ?_
      cases hf
      exact g_reti hx hb hr hlocks hW hS (Nat.le_of_ble_eq_true rfl) (Nat.le_of_ble_eq_true rfl) dMain_leak_37
    · replace hf := g_if c_11 hf
      by_cases c_12 : i1 = 2
      · replace hf := g_it c_12 hf
        refine lv_tableIn (tgt := 38) hx hb dMain_leak_1 (by rw [c_12]; decide) (by rw [c_12]; decide) (by rw [c_12]; rfl) (by decide) ?_
        refine lv_aload_n hx hb dMain_leak_38 rfl (lv_at hl 0 rfl) ?_
        replace hf := g_bd hf
        obtain ⟨v_4, hv_4, hf⟩ := hf
        refine g_getI hx hb hts in_Main hown hK hW (ci := 8) (C := "SecretRows") (T := T_Main) (N := 14) rfl (k := 13) (by decide) (hts _ kw_94) (fun _ h9 => h9) hv_4 dMain_leak_39 ?_
        cases hf
        exact g_reti hx hb hr hlocks hW hS (Nat.le_of_ble_eq_true rfl) (Nat.le_of_ble_eq_true rfl) dMain_leak_42
      · replace hf := g_if c_12 hf
        have c_1t0 := lv_neT c_10 (show (0 : Int32).toInt = 0 by decide)
        have c_1t1 := lv_neT c_11 (show (1 : Int32).toInt = 1 by decide)
        have c_1t2 := lv_neT c_12 (show (2 : Int32).toInt = 2 by decide)
        refine lv_tableOut (tgt := 43) hx hb dMain_leak_1 (by omega) (by decide) ?_
        refine lv_iconst (v := (-1)) hx hb dMain_leak_43 (by decide) ?_
        cases hf
        exact g_reti hx hb hr hlocks hW hS (Nat.le_of_ble_eq_true rfl) (Nat.le_of_ble_eq_true rfl) dMain_leak_44
