theorem dRef_leak_0 : decode cRef_leak 0 = .ok (.aload_n 0, 1) := by decide +kernel
theorem dRef_leak_1 : decode cRef_leak 1 = .ok (.iconst 0, 1) := by decide +kernel
theorem dRef_leak_2 : decode cRef_leak 2 = .ok (.putfield 90, 3) := by decide +kernel
theorem dRef_leak_5 : decode cRef_leak 5 = .ok (.aload_n 0, 1) := by decide +kernel
theorem dRef_leak_6 : decode cRef_leak 6 = .ok (.getfield 86, 3) := by decide +kernel
theorem dRef_leak_9 : decode cRef_leak 9 = .ok (.iconst (-1), 1) := by decide +kernel
theorem dRef_leak_10 : decode cRef_leak 10 = .ok (.if_icmp .ne 7, 3) := by decide +kernel
theorem dRef_leak_13 : decode cRef_leak 13 = .ok (.iconst (-1), 1) := by decide +kernel
theorem dRef_leak_14 : decode cRef_leak 14 = .ok (.goto 39, 3) := by decide +kernel
theorem dRef_leak_17 : decode cRef_leak 17 = .ok (.iload_n 1, 1) := by decide +kernel
theorem dRef_leak_18 : decode cRef_leak 18 = .ok (.ifCond .ne 10, 3) := by decide +kernel
theorem dRef_leak_21 : decode cRef_leak 21 = .ok (.aload_n 0, 1) := by decide +kernel
theorem dRef_leak_22 : decode cRef_leak 22 = .ok (.getfield 86, 3) := by decide +kernel
theorem dRef_leak_25 : decode cRef_leak 25 = .ok (.goto 28, 3) := by decide +kernel
theorem dRef_leak_28 : decode cRef_leak 28 = .ok (.iload_n 1, 1) := by decide +kernel
theorem dRef_leak_29 : decode cRef_leak 29 = .ok (.iconst 1, 1) := by decide +kernel
theorem dRef_leak_30 : decode cRef_leak 30 = .ok (.if_icmp .ne 10, 3) := by decide +kernel
theorem dRef_leak_33 : decode cRef_leak 33 = .ok (.aload_n 0, 1) := by decide +kernel
theorem dRef_leak_34 : decode cRef_leak 34 = .ok (.getfield 157, 3) := by decide +kernel
theorem dRef_leak_37 : decode cRef_leak 37 = .ok (.goto 16, 3) := by decide +kernel
theorem dRef_leak_40 : decode cRef_leak 40 = .ok (.iload_n 1, 1) := by decide +kernel
theorem dRef_leak_41 : decode cRef_leak 41 = .ok (.iconst 2, 1) := by decide +kernel
theorem dRef_leak_42 : decode cRef_leak 42 = .ok (.if_icmp .ne 10, 3) := by decide +kernel
theorem dRef_leak_45 : decode cRef_leak 45 = .ok (.aload_n 0, 1) := by decide +kernel
theorem dRef_leak_46 : decode cRef_leak 46 = .ok (.getfield 160, 3) := by decide +kernel
theorem dRef_leak_49 : decode cRef_leak 49 = .ok (.goto 4, 3) := by decide +kernel
theorem dRef_leak_52 : decode cRef_leak 52 = .ok (.iconst (-1), 1) := by decide +kernel
theorem dRef_leak_53 : decode cRef_leak 53 = .ok (.ireturn, 1) := by decide +kernel
def fRef_leak (n : Nat) (a0 : Nat) (i1 : Int32) (z : gS) : Option (Int32 × gS) :=
    (g_pF z a0 9 0 (.int 0)).bind fun z_1 =>
    (g_fI z_1 a0 9 33).bind fun v_2 =>
    if v_2 = (-1) then (
    some ((-1), z_1))
    else (
    if i1 = 0 then (
    (g_fI z_1 a0 9 33).bind fun v_9 =>
    some (v_9, z_1))
    else (
    if i1 = 1 then (
    (g_fI z_1 a0 9 34).bind fun v_8 =>
    some (v_8, z_1))
    else (
    if i1 = 2 then (
    (g_fI z_1 a0 9 35).bind fun v_7 =>
    some (v_7, z_1))
    else (
    some ((-1), z_1)))))
set_option maxHeartbeats 4000000 in
set_option maxRecDepth 100000 in
theorem mRef_leak (l : Launch) (D : va_G) (A : Nat → Prop) (n : Nat) (z z' : gS) (a0 : Nat) (i1 : Int32) (r : Int32) (hf : fRef_leak n a0 i1 z = some (r, z')) : Met l yRef_leak wsRef_leak ({ frames := 0, cells := 0, slots := 0, locals := 0 }) (g_P D vwCl gNN gOO A z [.ref a0, .int i1]) (g_Qi D vwCl A r z') 0 0 A := by
  refine Met.ofW (cc := cRef_leak) (maxL := 2) (ret := (some .int)) (by decide) rfl ?_
  intro p e s m args below meth c s₁ B hml hv
  obtain ⟨rfl, hW, hK, hA0⟩ := hv
  have C : g_C p s m meth c _ cRef_leak 2 (some .int) "SecretRowsModel" gW D vwCl gNN gOO A := ⟨B.exec, B.bytes, B.returns, hml, findClass_of_methodNamed B.named, fun w hw => atoms_spec (ws := wsRef_leak) B.pre w (List.mem_cons_of_mem _ hw), B.notSynchronized, hK, fun q hq => hA0 q (by rw [← hW.1]; exact hq)⟩
  have hS : va_S A s.heap s.heap [] := va_S.rf
  have hl := lv_entry ([.ref a0, .int i1]) (n := 2) (Nat.le_of_ble_eq_true rfl)
  rw [lg_entry_eq]
  generalize (lg_sl ([.ref a0, .int i1]) ++ List.replicate (2 - (lg_sl ([.ref a0, .int i1])).length) Slot.unset).toArray = ls at hl ⊢
  have hl : lv_has ls 2 [(0, .ref a0), (1, .int i1)] := hl
  obtain ⟨hx, hb, hr, hml, hown, hts, hlocks, hK, hA⟩ := id C
  unfold fRef_leak at hf
  refine lv_aload_n hx hb dRef_leak_0 rfl (lv_at hl 0 rfl) ?_
  refine lv_iconst (v := 0) hx hb dRef_leak_1 (by decide) ?_
  replace hf := g_bd hf
  obtain ⟨z_1, hz_1, hf⟩ := hf
  refine g_put hx hb hts in_Ref ty_Ref tyok_Ref nm_Ref hown hK hW hS (ci := 9) (C := "SecretRowsModel") (T := T_Ref) (N := 36) rfl (k := 0) (by decide) (hts _ kw_520) (fun _ h9 => h9) rfl (ty := .int) (by decide +kernel) rfl rfl hz_1 dRef_leak_2 (fun H locs hW hS => ?_)
  refine lv_aload_n hx hb dRef_leak_5 rfl (lv_at hl 0 rfl) ?_
  replace hf := g_bd hf
  obtain ⟨v_2, hv_2, hf⟩ := hf
  refine g_getI hx hb hts in_Ref hown hK hW (ci := 9) (C := "SecretRowsModel") (T := T_Ref) (N := 36) rfl (k := 33) (by decide) (hts _ kw_553) (fun _ h9 => h9) hv_2 dRef_leak_6 ?_
  refine lv_iconst (v := (-1)) hx hb dRef_leak_9 (by decide) ?_
  refine lv_icmp_ne (tgt := 17) hx hb dRef_leak_10 (by decide) (fun c_3 => ?_) (fun c_3 => ?_)
  · replace hf := g_if c_3 hf
    refine lv_iload_n hx hb dRef_leak_17 rfl (lv_at hl 1 rfl) ?_
    refine lv_if_ne (tgt := 28) hx hb dRef_leak_18 (by decide) (fun c_4 => ?_) (fun c_4 => ?_)
    · replace hf := g_if c_4 hf
      refine lv_iload_n hx hb dRef_leak_28 rfl (lv_at hl 1 rfl) ?_
      refine lv_iconst (v := 1) hx hb dRef_leak_29 (by decide) ?_
      refine lv_icmp_ne (tgt := 40) hx hb dRef_leak_30 (by decide) (fun c_5 => ?_) (fun c_5 => ?_)
      · replace hf := g_if c_5 hf
        refine lv_iload_n hx hb dRef_leak_40 rfl (lv_at hl 1 rfl) ?_
        refine lv_iconst (v := 2) hx hb dRef_leak_41 (by decide) ?_
        refine lv_icmp_ne (tgt := 52) hx hb dRef_leak_42 (by decide) (fun c_6 => ?_) (fun c_6 => ?_)
        · replace hf := g_if c_6 hf
          refine lv_iconst (v := (-1)) hx hb dRef_leak_52 (by decide) ?_
          cases hf
          exact g_reti hx hb hr hlocks hW hS (Nat.le_of_ble_eq_true rfl) (Nat.le_of_ble_eq_true rfl) dRef_leak_53
        · replace hf := g_it c_6 hf
          refine lv_aload_n hx hb dRef_leak_45 rfl (lv_at hl 0 rfl) ?_
          replace hf := g_bd hf
          obtain ⟨v_7, hv_7, hf⟩ := hf
          refine g_getI hx hb hts in_Ref hown hK hW (ci := 9) (C := "SecretRowsModel") (T := T_Ref) (N := 36) rfl (k := 35) (by decide) (hts _ kw_555) (fun _ h9 => h9) hv_7 dRef_leak_46 ?_
          refine lv_goto (tgt := 53) hx hb dRef_leak_49 (by decide) ?_
          cases hf
          exact g_reti hx hb hr hlocks hW hS (Nat.le_of_ble_eq_true rfl) (Nat.le_of_ble_eq_true rfl) dRef_leak_53
      · replace hf := g_it c_5 hf
        refine lv_aload_n hx hb dRef_leak_33 rfl (lv_at hl 0 rfl) ?_
        replace hf := g_bd hf
        obtain ⟨v_8, hv_8, hf⟩ := hf
        refine g_getI hx hb hts in_Ref hown hK hW (ci := 9) (C := "SecretRowsModel") (T := T_Ref) (N := 36) rfl (k := 34) (by decide) (hts _ kw_554) (fun _ h9 => h9) hv_8 dRef_leak_34 ?_
        refine lv_goto (tgt := 53) hx hb dRef_leak_37 (by decide) ?_
        cases hf
        exact g_reti hx hb hr hlocks hW hS (Nat.le_of_ble_eq_true rfl) (Nat.le_of_ble_eq_true rfl) dRef_leak_53
    · replace hf := g_it c_4 hf
      refine lv_aload_n hx hb dRef_leak_21 rfl (lv_at hl 0 rfl) ?_
      replace hf := g_bd hf
      obtain ⟨v_9, hv_9, hf⟩ := hf
      refine g_getI hx hb hts in_Ref hown hK hW (ci := 9) (C := "SecretRowsModel") (T := T_Ref) (N := 36) rfl (k := 33) (by decide) (hts _ kw_553) (fun _ h9 => h9) hv_9 dRef_leak_22 ?_
      refine lv_goto (tgt := 53) hx hb dRef_leak_25 (by decide) ?_
      cases hf
      exact g_reti hx hb hr hlocks hW hS (Nat.le_of_ble_eq_true rfl) (Nat.le_of_ble_eq_true rfl) dRef_leak_53
  · replace hf := g_it c_3 hf
    refine lv_iconst (v := (-1)) hx hb dRef_leak_13 (by decide) ?_
    refine lv_goto (tgt := 53) hx hb dRef_leak_14 (by decide) ?_
    cases hf
    exact g_reti hx hb hr hlocks hW hS (Nat.le_of_ble_eq_true rfl) (Nat.le_of_ble_eq_true rfl) dRef_leak_53
