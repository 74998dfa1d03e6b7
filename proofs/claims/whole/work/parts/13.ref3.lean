theorem dRef_counts_0 : decode cRef_counts 0 = .ok (.aload_n 0, 1) := by decide +kernel
theorem dRef_counts_1 : decode cRef_counts 1 = .ok (.getfield 7, 3) := by decide +kernel
theorem dRef_counts_4 : decode cRef_counts 4 = .ok (.iload_n 1, 1) := by decide +kernel
theorem dRef_counts_5 : decode cRef_counts 5 = .ok (.iaload, 1) := by decide +kernel
theorem dRef_counts_6 : decode cRef_counts 6 = .ok (.istore_n 2, 1) := by decide +kernel
theorem dRef_counts_7 : decode cRef_counts 7 = .ok (.aload_n 0, 1) := by decide +kernel
theorem dRef_counts_8 : decode cRef_counts 8 = .ok (.getfield 28, 3) := by decide +kernel
theorem dRef_counts_11 : decode cRef_counts 11 = .ok (.iload_n 2, 1) := by decide +kernel
theorem dRef_counts_12 : decode cRef_counts 12 = .ok (.iaload, 1) := by decide +kernel
theorem dRef_counts_13 : decode cRef_counts 13 = .ok (.iload_n 1, 1) := by decide +kernel
theorem dRef_counts_14 : decode cRef_counts 14 = .ok (.if_icmp .eq 26, 3) := by decide +kernel
theorem dRef_counts_17 : decode cRef_counts 17 = .ok (.aload_n 0, 1) := by decide +kernel
theorem dRef_counts_18 : decode cRef_counts 18 = .ok (.getfield 31, 3) := by decide +kernel
theorem dRef_counts_21 : decode cRef_counts 21 = .ok (.iload_n 2, 1) := by decide +kernel
theorem dRef_counts_22 : decode cRef_counts 22 = .ok (.iaload, 1) := by decide +kernel
theorem dRef_counts_23 : decode cRef_counts 23 = .ok (.iload_n 1, 1) := by decide +kernel
theorem dRef_counts_24 : decode cRef_counts 24 = .ok (.if_icmp .ne 20, 3) := by decide +kernel
theorem dRef_counts_27 : decode cRef_counts 27 = .ok (.aload_n 0, 1) := by decide +kernel
theorem dRef_counts_28 : decode cRef_counts 28 = .ok (.getfield 114, 3) := by decide +kernel
theorem dRef_counts_31 : decode cRef_counts 31 = .ok (.aload_n 0, 1) := by decide +kernel
theorem dRef_counts_32 : decode cRef_counts 32 = .ok (.getfield 34, 3) := by decide +kernel
theorem dRef_counts_35 : decode cRef_counts 35 = .ok (.iload_n 2, 1) := by decide +kernel
theorem dRef_counts_36 : decode cRef_counts 36 = .ok (.iaload, 1) := by decide +kernel
theorem dRef_counts_37 : decode cRef_counts 37 = .ok (.if_icmp .ge 7, 3) := by decide +kernel
theorem dRef_counts_40 : decode cRef_counts 40 = .ok (.iconst 1, 1) := by decide +kernel
theorem dRef_counts_41 : decode cRef_counts 41 = .ok (.goto 4, 3) := by decide +kernel
theorem dRef_counts_44 : decode cRef_counts 44 = .ok (.iconst 0, 1) := by decide +kernel
theorem dRef_counts_45 : decode cRef_counts 45 = .ok (.ireturn, 1) := by decide +kernel
theorem dRef_formLength_0 : decode cRef_formLength 0 = .ok (.iload_n 2, 1) := by decide +kernel
theorem dRef_formLength_1 : decode cRef_formLength 1 = .ok (.iconst 2, 1) := by decide +kernel
theorem dRef_formLength_2 : decode cRef_formLength 2 = .ok (.if_icmp .ne 14, 3) := by decide +kernel
theorem dRef_formLength_5 : decode cRef_formLength 5 = .ok (.iconst 2, 1) := by decide +kernel
theorem dRef_formLength_6 : decode cRef_formLength 6 = .ok (.aload_n 0, 1) := by decide +kernel
theorem dRef_formLength_7 : decode cRef_formLength 7 = .ok (.getfield 13, 3) := by decide +kernel
theorem dRef_formLength_10 : decode cRef_formLength 10 = .ok (.iload_n 1, 1) := by decide +kernel
theorem dRef_formLength_11 : decode cRef_formLength 11 = .ok (.iaload, 1) := by decide +kernel
theorem dRef_formLength_12 : decode cRef_formLength 12 = .ok (.imul, 1) := by decide +kernel
theorem dRef_formLength_13 : decode cRef_formLength 13 = .ok (.goto 9, 3) := by decide +kernel
theorem dRef_formLength_16 : decode cRef_formLength 16 = .ok (.aload_n 0, 1) := by decide +kernel
theorem dRef_formLength_17 : decode cRef_formLength 17 = .ok (.getfield 13, 3) := by decide +kernel
theorem dRef_formLength_20 : decode cRef_formLength 20 = .ok (.iload_n 1, 1) := by decide +kernel
theorem dRef_formLength_21 : decode cRef_formLength 21 = .ok (.iaload, 1) := by decide +kernel
theorem dRef_formLength_22 : decode cRef_formLength 22 = .ok (.ireturn, 1) := by decide +kernel
theorem dRef_digit_0 : decode cRef_digit 0 = .ok (.iload_n 0, 1) := by decide +kernel
theorem dRef_digit_1 : decode cRef_digit 1 = .ok (.bipush 10, 2) := by decide +kernel
theorem dRef_digit_3 : decode cRef_digit 3 = .ok (.if_icmp .ge 10, 3) := by decide +kernel
theorem dRef_digit_6 : decode cRef_digit 6 = .ok (.bipush 48, 2) := by decide +kernel
theorem dRef_digit_8 : decode cRef_digit 8 = .ok (.iload_n 0, 1) := by decide +kernel
theorem dRef_digit_9 : decode cRef_digit 9 = .ok (.iadd, 1) := by decide +kernel
theorem dRef_digit_10 : decode cRef_digit 10 = .ok (.goto 10, 3) := by decide +kernel
theorem dRef_digit_13 : decode cRef_digit 13 = .ok (.bipush 97, 2) := by decide +kernel
theorem dRef_digit_15 : decode cRef_digit 15 = .ok (.iload_n 0, 1) := by decide +kernel
theorem dRef_digit_16 : decode cRef_digit 16 = .ok (.iadd, 1) := by decide +kernel
theorem dRef_digit_17 : decode cRef_digit 17 = .ok (.bipush 10, 2) := by decide +kernel
theorem dRef_digit_19 : decode cRef_digit 19 = .ok (.isub, 1) := by decide +kernel
theorem dRef_digit_20 : decode cRef_digit 20 = .ok (.ireturn, 1) := by decide +kernel
theorem dRef_formSign_0 : decode cRef_formSign 0 = .ok (.iload_n 2, 1) := by decide +kernel
theorem dRef_formSign_1 : decode cRef_formSign 1 = .ok (.iconst 2, 1) := by decide +kernel
theorem dRef_formSign_2 : decode cRef_formSign 2 = .ok (.if_icmp .ne 35, 3) := by decide +kernel
theorem dRef_formSign_5 : decode cRef_formSign 5 = .ok (.aload_n 0, 1) := by decide +kernel
theorem dRef_formSign_6 : decode cRef_formSign 6 = .ok (.getfield 16, 3) := by decide +kernel
theorem dRef_formSign_9 : decode cRef_formSign 9 = .ok (.bipush 12, 2) := by decide +kernel
theorem dRef_formSign_11 : decode cRef_formSign 11 = .ok (.iload_n 1, 1) := by decide +kernel
theorem dRef_formSign_12 : decode cRef_formSign 12 = .ok (.imul, 1) := by decide +kernel
theorem dRef_formSign_13 : decode cRef_formSign 13 = .ok (.iload_n 3, 1) := by decide +kernel
theorem dRef_formSign_14 : decode cRef_formSign 14 = .ok (.iconst 2, 1) := by decide +kernel
theorem dRef_formSign_15 : decode cRef_formSign 15 = .ok (.idiv, 1) := by decide +kernel
theorem dRef_formSign_16 : decode cRef_formSign 16 = .ok (.iadd, 1) := by decide +kernel
theorem dRef_formSign_17 : decode cRef_formSign 17 = .ok (.iaload, 1) := by decide +kernel
theorem dRef_formSign_18 : decode cRef_formSign 18 = .ok (.iload_n 3, 1) := by decide +kernel
theorem dRef_formSign_19 : decode cRef_formSign 19 = .ok (.iconst 2, 1) := by decide +kernel
theorem dRef_formSign_20 : decode cRef_formSign 20 = .ok (.irem, 1) := by decide +kernel
theorem dRef_formSign_21 : decode cRef_formSign 21 = .ok (.ifCond .ne 7, 3) := by decide +kernel
theorem dRef_formSign_24 : decode cRef_formSign 24 = .ok (.iconst 4, 1) := by decide +kernel
theorem dRef_formSign_25 : decode cRef_formSign 25 = .ok (.goto 4, 3) := by decide +kernel
theorem dRef_formSign_28 : decode cRef_formSign 28 = .ok (.iconst 0, 1) := by decide +kernel
theorem dRef_formSign_29 : decode cRef_formSign 29 = .ok (.ishr, 1) := by decide +kernel
theorem dRef_formSign_30 : decode cRef_formSign 30 = .ok (.bipush 15, 2) := by decide +kernel
theorem dRef_formSign_32 : decode cRef_formSign 32 = .ok (.iand, 1) := by decide +kernel
theorem dRef_formSign_33 : decode cRef_formSign 33 = .ok (.invokestatic 128, 3) := by decide +kernel
theorem dRef_formSign_36 : decode cRef_formSign 36 = .ok (.ireturn, 1) := by decide +kernel
theorem dRef_formSign_37 : decode cRef_formSign 37 = .ok (.aload_n 0, 1) := by decide +kernel
theorem dRef_formSign_38 : decode cRef_formSign 38 = .ok (.getfield 16, 3) := by decide +kernel
theorem dRef_formSign_41 : decode cRef_formSign 41 = .ok (.bipush 12, 2) := by decide +kernel
theorem dRef_formSign_43 : decode cRef_formSign 43 = .ok (.iload_n 1, 1) := by decide +kernel
theorem dRef_formSign_44 : decode cRef_formSign 44 = .ok (.imul, 1) := by decide +kernel
theorem dRef_formSign_45 : decode cRef_formSign 45 = .ok (.iload_n 2, 1) := by decide +kernel
theorem dRef_formSign_46 : decode cRef_formSign 46 = .ok (.ifCond .ne 7, 3) := by decide +kernel
theorem dRef_formSign_49 : decode cRef_formSign 49 = .ok (.iload_n 3, 1) := by decide +kernel
theorem dRef_formSign_50 : decode cRef_formSign 50 = .ok (.goto 13, 3) := by decide +kernel
theorem dRef_formSign_53 : decode cRef_formSign 53 = .ok (.aload_n 0, 1) := by decide +kernel
theorem dRef_formSign_54 : decode cRef_formSign 54 = .ok (.getfield 13, 3) := by decide +kernel
theorem dRef_formSign_57 : decode cRef_formSign 57 = .ok (.iload_n 1, 1) := by decide +kernel
theorem dRef_formSign_58 : decode cRef_formSign 58 = .ok (.iaload, 1) := by decide +kernel
theorem dRef_formSign_59 : decode cRef_formSign 59 = .ok (.iconst 1, 1) := by decide +kernel
theorem dRef_formSign_60 : decode cRef_formSign 60 = .ok (.isub, 1) := by decide +kernel
theorem dRef_formSign_61 : decode cRef_formSign 61 = .ok (.iload_n 3, 1) := by decide +kernel
theorem dRef_formSign_62 : decode cRef_formSign 62 = .ok (.isub, 1) := by decide +kernel
theorem dRef_formSign_63 : decode cRef_formSign 63 = .ok (.iadd, 1) := by decide +kernel
theorem dRef_formSign_64 : decode cRef_formSign 64 = .ok (.iaload, 1) := by decide +kernel
theorem dRef_formSign_65 : decode cRef_formSign 65 = .ok (.ireturn, 1) := by decide +kernel
theorem dRef_common_0 : decode cRef_common 0 = .ok (.iconst 0, 1) := by decide +kernel
theorem dRef_common_1 : decode cRef_common 1 = .ok (.istore 6, 2) := by decide +kernel
theorem dRef_common_3 : decode cRef_common 3 = .ok (.iload 6, 2) := by decide +kernel
theorem dRef_common_5 : decode cRef_common 5 = .ok (.aload_n 0, 1) := by decide +kernel
theorem dRef_common_6 : decode cRef_common 6 = .ok (.iload 4, 2) := by decide +kernel
theorem dRef_common_8 : decode cRef_common 8 = .ok (.iload 5, 2) := by decide +kernel
theorem dRef_common_10 : decode cRef_common 10 = .ok (.invokevirtual 132, 3) := by decide +kernel
theorem dRef_common_13 : decode cRef_common 13 = .ok (.if_icmp .ge 36, 3) := by decide +kernel
theorem dRef_common_16 : decode cRef_common 16 = .ok (.iload_n 2, 1) := by decide +kernel
theorem dRef_common_17 : decode cRef_common 17 = .ok (.iload 6, 2) := by decide +kernel
theorem dRef_common_19 : decode cRef_common 19 = .ok (.iadd, 1) := by decide +kernel
theorem dRef_common_20 : decode cRef_common 20 = .ok (.iload_n 3, 1) := by decide +kernel
theorem dRef_common_21 : decode cRef_common 21 = .ok (.if_icmp .ge 28, 3) := by decide +kernel
theorem dRef_common_24 : decode cRef_common 24 = .ok (.aload_n 1, 1) := by decide +kernel
theorem dRef_common_25 : decode cRef_common 25 = .ok (.iload_n 2, 1) := by decide +kernel
theorem dRef_common_26 : decode cRef_common 26 = .ok (.iload 6, 2) := by decide +kernel
theorem dRef_common_28 : decode cRef_common 28 = .ok (.iadd, 1) := by decide +kernel
theorem dRef_common_29 : decode cRef_common 29 = .ok (.iaload, 1) := by decide +kernel
theorem dRef_common_30 : decode cRef_common 30 = .ok (.aload_n 0, 1) := by decide +kernel
theorem dRef_common_31 : decode cRef_common 31 = .ok (.iload 4, 2) := by decide +kernel
theorem dRef_common_33 : decode cRef_common 33 = .ok (.iload 5, 2) := by decide +kernel
theorem dRef_common_35 : decode cRef_common 35 = .ok (.iload 6, 2) := by decide +kernel
theorem dRef_common_37 : decode cRef_common 37 = .ok (.invokevirtual 135, 3) := by decide +kernel
theorem dRef_common_40 : decode cRef_common 40 = .ok (.if_icmp .ne 9, 3) := by decide +kernel
theorem dRef_common_43 : decode cRef_common 43 = .ok (.iinc 6 1, 3) := by decide +kernel
theorem dRef_common_46 : decode cRef_common 46 = .ok (.goto (-43), 3) := by decide +kernel
theorem dRef_common_49 : decode cRef_common 49 = .ok (.iload 6, 2) := by decide +kernel
theorem dRef_common_51 : decode cRef_common 51 = .ok (.ireturn, 1) := by decide +kernel
theorem dRef_tell_0 : decode cRef_tell 0 = .ok (.aload_n 0, 1) := by decide +kernel
theorem dRef_tell_1 : decode cRef_tell 1 = .ok (.getfield 56, 3) := by decide +kernel
theorem dRef_tell_4 : decode cRef_tell 4 = .ok (.sipush 300, 3) := by decide +kernel
theorem dRef_tell_7 : decode cRef_tell 7 = .ok (.iload_n 1, 1) := by decide +kernel
theorem dRef_tell_8 : decode cRef_tell 8 = .ok (.imul, 1) := by decide +kernel
theorem dRef_tell_9 : decode cRef_tell 9 = .ok (.aload_n 0, 1) := by decide +kernel
theorem dRef_tell_10 : decode cRef_tell 10 = .ok (.getfield 59, 3) := by decide +kernel
theorem dRef_tell_13 : decode cRef_tell 13 = .ok (.iload_n 1, 1) := by decide +kernel
theorem dRef_tell_14 : decode cRef_tell 14 = .ok (.iaload, 1) := by decide +kernel
theorem dRef_tell_15 : decode cRef_tell 15 = .ok (.iadd, 1) := by decide +kernel
theorem dRef_tell_16 : decode cRef_tell 16 = .ok (.iload_n 2, 1) := by decide +kernel
theorem dRef_tell_17 : decode cRef_tell 17 = .ok (.iastore, 1) := by decide +kernel
theorem dRef_tell_18 : decode cRef_tell 18 = .ok (.aload_n 0, 1) := by decide +kernel
theorem dRef_tell_19 : decode cRef_tell 19 = .ok (.getfield 59, 3) := by decide +kernel
theorem dRef_tell_22 : decode cRef_tell 22 = .ok (.iload_n 1, 1) := by decide +kernel
theorem dRef_tell_23 : decode cRef_tell 23 = .ok (.dup2, 1) := by decide +kernel
theorem dRef_tell_24 : decode cRef_tell 24 = .ok (.iaload, 1) := by decide +kernel
theorem dRef_tell_25 : decode cRef_tell 25 = .ok (.iconst 1, 1) := by decide +kernel
theorem dRef_tell_26 : decode cRef_tell 26 = .ok (.iadd, 1) := by decide +kernel
theorem dRef_tell_27 : decode cRef_tell 27 = .ok (.iastore, 1) := by decide +kernel
theorem dRef_tell_28 : decode cRef_tell 28 = .ok (.return_, 1) := by decide +kernel
def fRef_counts (n : Nat) (a0 : Nat) (i1 : Int32) (z : gS) : Option (Int32 × gS) :=
    (g_fR z a0 9 7).bind fun r_1 =>
    r_1.bind fun a_2 =>
    (g_ldI z .int a_2 i1).bind fun v_3 =>
    (g_fR z a0 9 13).bind fun r_4 =>
    r_4.bind fun a_5 =>
    (g_ldI z .int a_5 v_3).bind fun v_6 =>
    if v_6 = i1 then (
    some (1, z))
    else (
    (g_fR z a0 9 14).bind fun r_8 =>
    r_8.bind fun a_9 =>
    (g_ldI z .int a_9 v_3).bind fun v_10 =>
    if v_10 = i1 then (
    (g_fI z a0 9 1).bind fun v_12 =>
    (g_fR z a0 9 15).bind fun r_13 =>
    r_13.bind fun a_14 =>
    (g_ldI z .int a_14 v_3).bind fun v_15 =>
    if v_15 ≤ v_12 then (
    some (0, z))
    else (
    some (1, z)))
    else (
    some (0, z)))
set_option maxHeartbeats 4000000 in
set_option maxRecDepth 100000 in
theorem mRef_counts (l : Launch) (D : va_G) (A : Nat → Prop) (n : Nat) (z z' : gS) (a0 : Nat) (i1 : Int32) (r : Int32) (hf : fRef_counts n a0 i1 z = some (r, z')) : Met l yRef_counts wsRef_counts ({ frames := 0, cells := 0, slots := 0, locals := 0 }) (g_P D vwCl gNN gOO A z [.ref a0, .int i1]) (g_Qi D vwCl A r z') 0 0 A := by
  refine Met.ofW (cc := cRef_counts) (maxL := 3) (ret := (some .boolean)) (by decide) rfl ?_
  intro p e s m args below meth c s₁ B hml hv
  obtain ⟨rfl, hW, hK, hA0⟩ := hv
  have C : g_C p s m meth c _ cRef_counts 3 (some .boolean) "SecretRowsModel" gW D vwCl gNN gOO A := ⟨B.exec, B.bytes, B.returns, hml, findClass_of_methodNamed B.named, fun w hw => atoms_spec (ws := wsRef_counts) B.pre w (List.mem_cons_of_mem _ hw), B.notSynchronized, hK, fun q hq => hA0 q (by rw [← hW.1]; exact hq)⟩
  have hS : va_S A s.heap s.heap [] := va_S.rf
  have hl := lv_entry ([.ref a0, .int i1]) (n := 3) (Nat.le_of_ble_eq_true rfl)
  rw [lg_entry_eq]
  generalize (lg_sl ([.ref a0, .int i1]) ++ List.replicate (3 - (lg_sl ([.ref a0, .int i1])).length) Slot.unset).toArray = ls at hl ⊢
  have hl : lv_has ls 3 [(0, .ref a0), (1, .int i1)] := hl
  obtain ⟨hx, hb, hr, hml, hown, hts, hlocks, hK, hA⟩ := id C
  unfold fRef_counts at hf
  refine lv_aload_n hx hb dRef_counts_0 rfl (lv_at hl 0 rfl) ?_
  replace hf := g_bd hf
  obtain ⟨r_1, hr_1, hf⟩ := hf
  refine g_getR hx hb hts in_Ref hown hK hW (ci := 9) (C := "SecretRowsModel") (T := T_Ref) (N := 36) rfl (k := 7) (by decide) (hts _ kw_527) (fun _ h9 => h9) hr_1 dRef_counts_1 ?_
  refine lv_iload_n hx hb dRef_counts_4 rfl (lv_at hl 1 rfl) ?_
  replace hf := g_bd hf
  obtain ⟨a_2, ea_2, hf⟩ := hf
  subst ea_2
  refine W.eq (g2 := F0 m 5 _ [.int i1, .ref a_2]) rfl ?_
  replace hf := g_bd hf
  obtain ⟨v_3, hv_3, hf⟩ := hf
  refine g_ald_i hx hb hK hW hv_3 dRef_counts_5 ?_
  refine lv_istore_n (lv' := [(2, .int v_3), (0, .ref a0), (1, .int i1)]) hx hb dRef_counts_6 rfl hl (by decide) rfl (fun _ hl1 => ?_)
  clear hl
  have hl := hl1
  clear hl1
  refine lv_aload_n hx hb dRef_counts_7 rfl (lv_at hl 1 rfl) ?_
  replace hf := g_bd hf
  obtain ⟨r_4, hr_4, hf⟩ := hf
  refine g_getR hx hb hts in_Ref hown hK hW (ci := 9) (C := "SecretRowsModel") (T := T_Ref) (N := 36) rfl (k := 13) (by decide) (hts _ kw_533) (fun _ h9 => h9) hr_4 dRef_counts_8 ?_
  refine lv_iload_n hx hb dRef_counts_11 rfl (lv_at hl 0 rfl) ?_
  replace hf := g_bd hf
  obtain ⟨a_5, ea_5, hf⟩ := hf
  subst ea_5
  refine W.eq (g2 := F0 m 12 _ [.int v_3, .ref a_5]) rfl ?_
  replace hf := g_bd hf
  obtain ⟨v_6, hv_6, hf⟩ := hf
  refine g_ald_i hx hb hK hW hv_6 dRef_counts_12 ?_
  refine lv_iload_n hx hb dRef_counts_13 rfl (lv_at hl 2 rfl) ?_
  refine lv_icmp_eq (tgt := 40) hx hb dRef_counts_14 (by decide) (fun c_7 => ?_) (fun c_7 => ?_)
  · replace hf := g_it c_7 hf
    refine lv_iconst (v := 1) hx hb dRef_counts_40 (by decide) ?_
    refine lv_goto (tgt := 45) hx hb dRef_counts_41 (by decide) ?_
    cases hf
    exact g_retz hx hb hr rfl hlocks hW hS (Nat.le_of_ble_eq_true rfl) (Nat.le_of_ble_eq_true rfl) dRef_counts_45
  · replace hf := g_if c_7 hf
    refine lv_aload_n hx hb dRef_counts_17 rfl (lv_at hl 1 rfl) ?_
    replace hf := g_bd hf
    obtain ⟨r_8, hr_8, hf⟩ := hf
    refine g_getR hx hb hts in_Ref hown hK hW (ci := 9) (C := "SecretRowsModel") (T := T_Ref) (N := 36) rfl (k := 14) (by decide) (hts _ kw_534) (fun _ h9 => h9) hr_8 dRef_counts_18 ?_
    refine lv_iload_n hx hb dRef_counts_21 rfl (lv_at hl 0 rfl) ?_
    replace hf := g_bd hf
    obtain ⟨a_9, ea_9, hf⟩ := hf
    subst ea_9
    refine W.eq (g2 := F0 m 22 _ [.int v_3, .ref a_9]) rfl ?_
    replace hf := g_bd hf
    obtain ⟨v_10, hv_10, hf⟩ := hf
    refine g_ald_i hx hb hK hW hv_10 dRef_counts_22 ?_
    refine lv_iload_n hx hb dRef_counts_23 rfl (lv_at hl 2 rfl) ?_
    refine lv_icmp_ne (tgt := 44) hx hb dRef_counts_24 (by decide) (fun c_11 => ?_) (fun c_11 => ?_)
    · replace hf := g_if c_11 hf
      refine lv_iconst (v := 0) hx hb dRef_counts_44 (by decide) ?_
      cases hf
      exact g_retz hx hb hr rfl hlocks hW hS (Nat.le_of_ble_eq_true rfl) (Nat.le_of_ble_eq_true rfl) dRef_counts_45
    · replace hf := g_it c_11 hf
      refine lv_aload_n hx hb dRef_counts_27 rfl (lv_at hl 1 rfl) ?_
      replace hf := g_bd hf
      obtain ⟨v_12, hv_12, hf⟩ := hf
      refine g_getI hx hb hts in_Ref hown hK hW (ci := 9) (C := "SecretRowsModel") (T := T_Ref) (N := 36) rfl (k := 1) (by decide) (hts _ kw_521) (fun _ h9 => h9) hv_12 dRef_counts_28 ?_
      refine lv_aload_n hx hb dRef_counts_31 rfl (lv_at hl 1 rfl) ?_
      replace hf := g_bd hf
      obtain ⟨r_13, hr_13, hf⟩ := hf
      refine g_getR hx hb hts in_Ref hown hK hW (ci := 9) (C := "SecretRowsModel") (T := T_Ref) (N := 36) rfl (k := 15) (by decide) (hts _ kw_535) (fun _ h9 => h9) hr_13 dRef_counts_32 ?_
      refine lv_iload_n hx hb dRef_counts_35 rfl (lv_at hl 0 rfl) ?_
      replace hf := g_bd hf
      obtain ⟨a_14, ea_14, hf⟩ := hf
      subst ea_14
      refine W.eq (g2 := F0 m 36 _ [.int v_3, .ref a_14, .int v_12]) rfl ?_
      replace hf := g_bd hf
      obtain ⟨v_15, hv_15, hf⟩ := hf
      refine g_ald_i hx hb hK hW hv_15 dRef_counts_36 ?_
      refine lv_icmp_ge (tgt := 44) hx hb dRef_counts_37 (by decide) (fun c_16 => ?_) (fun c_16 => ?_)
      · replace hf := g_it c_16 hf
        refine lv_iconst (v := 0) hx hb dRef_counts_44 (by decide) ?_
        cases hf
        exact g_retz hx hb hr rfl hlocks hW hS (Nat.le_of_ble_eq_true rfl) (Nat.le_of_ble_eq_true rfl) dRef_counts_45
      · replace hf := g_if c_16 hf
        refine lv_iconst (v := 1) hx hb dRef_counts_40 (by decide) ?_
        refine lv_goto (tgt := 45) hx hb dRef_counts_41 (by decide) ?_
        cases hf
        exact g_retz hx hb hr rfl hlocks hW hS (Nat.le_of_ble_eq_true rfl) (Nat.le_of_ble_eq_true rfl) dRef_counts_45

def fRef_formLength (n : Nat) (a0 : Nat) (i1 : Int32) (i2 : Int32) (z : gS) : Option (Int32 × gS) :=
    if i2 = 2 then (
    (g_fR z a0 9 8).bind fun r_5 =>
    r_5.bind fun a_6 =>
    (g_ldI z .int a_6 i1).bind fun v_7 =>
    some ((2 * v_7), z))
    else (
    (g_fR z a0 9 8).bind fun r_2 =>
    r_2.bind fun a_3 =>
    (g_ldI z .int a_3 i1).bind fun v_4 =>
    some (v_4, z))
set_option maxHeartbeats 4000000 in
set_option maxRecDepth 100000 in
theorem mRef_formLength (l : Launch) (D : va_G) (A : Nat → Prop) (n : Nat) (z z' : gS) (a0 : Nat) (i1 : Int32) (i2 : Int32) (r : Int32) (hf : fRef_formLength n a0 i1 i2 z = some (r, z')) : Met l yRef_formLength wsRef_formLength ({ frames := 0, cells := 0, slots := 0, locals := 0 }) (g_P D vwCl gNN gOO A z [.ref a0, .int i1, .int i2]) (g_Qi D vwCl A r z') 0 0 A := by
  refine Met.ofW (cc := cRef_formLength) (maxL := 3) (ret := (some .int)) (by decide) rfl ?_
  intro p e s m args below meth c s₁ B hml hv
  obtain ⟨rfl, hW, hK, hA0⟩ := hv
  have C : g_C p s m meth c _ cRef_formLength 3 (some .int) "SecretRowsModel" gW D vwCl gNN gOO A := ⟨B.exec, B.bytes, B.returns, hml, findClass_of_methodNamed B.named, fun w hw => atoms_spec (ws := wsRef_formLength) B.pre w (List.mem_cons_of_mem _ hw), B.notSynchronized, hK, fun q hq => hA0 q (by rw [← hW.1]; exact hq)⟩
  have hS : va_S A s.heap s.heap [] := va_S.rf
  have hl := lv_entry ([.ref a0, .int i1, .int i2]) (n := 3) (Nat.le_of_ble_eq_true rfl)
  rw [lg_entry_eq]
  generalize (lg_sl ([.ref a0, .int i1, .int i2]) ++ List.replicate (3 - (lg_sl ([.ref a0, .int i1, .int i2])).length) Slot.unset).toArray = ls at hl ⊢
  have hl : lv_has ls 3 [(0, .ref a0), (1, .int i1), (2, .int i2)] := hl
  obtain ⟨hx, hb, hr, hml, hown, hts, hlocks, hK, hA⟩ := id C
  unfold fRef_formLength at hf
  refine lv_iload_n hx hb dRef_formLength_0 rfl (lv_at hl 2 rfl) ?_
  refine lv_iconst (v := 2) hx hb dRef_formLength_1 (by decide) ?_
  refine lv_icmp_ne (tgt := 16) hx hb dRef_formLength_2 (by decide) (fun c_1 => ?_) (fun c_1 => ?_)
  · replace hf := g_if c_1 hf
    refine lv_aload_n hx hb dRef_formLength_16 rfl (lv_at hl 0 rfl) ?_
    replace hf := g_bd hf
    obtain ⟨r_2, hr_2, hf⟩ := hf
    refine g_getR hx hb hts in_Ref hown hK hW (ci := 9) (C := "SecretRowsModel") (T := T_Ref) (N := 36) rfl (k := 8) (by decide) (hts _ kw_528) (fun _ h9 => h9) hr_2 dRef_formLength_17 ?_
    refine lv_iload_n hx hb dRef_formLength_20 rfl (lv_at hl 1 rfl) ?_
    replace hf := g_bd hf
    obtain ⟨a_3, ea_3, hf⟩ := hf
    subst ea_3
    refine W.eq (g2 := F0 m 21 _ [.int i1, .ref a_3]) rfl ?_
    replace hf := g_bd hf
    obtain ⟨v_4, hv_4, hf⟩ := hf
    refine g_ald_i hx hb hK hW hv_4 dRef_formLength_21 ?_
    cases hf
    exact g_reti hx hb hr hlocks hW hS (Nat.le_of_ble_eq_true rfl) (Nat.le_of_ble_eq_true rfl) dRef_formLength_22
  · replace hf := g_it c_1 hf
    refine lv_iconst (v := 2) hx hb dRef_formLength_5 (by decide) ?_
    refine lv_aload_n hx hb dRef_formLength_6 rfl (lv_at hl 0 rfl) ?_
    replace hf := g_bd hf
    obtain ⟨r_5, hr_5, hf⟩ := hf
    refine g_getR hx hb hts in_Ref hown hK hW (ci := 9) (C := "SecretRowsModel") (T := T_Ref) (N := 36) rfl (k := 8) (by decide) (hts _ kw_528) (fun _ h9 => h9) hr_5 dRef_formLength_7 ?_
    refine lv_iload_n hx hb dRef_formLength_10 rfl (lv_at hl 1 rfl) ?_
    replace hf := g_bd hf
    obtain ⟨a_6, ea_6, hf⟩ := hf
    subst ea_6
    refine W.eq (g2 := F0 m 11 _ [.int i1, .ref a_6, .int 2]) rfl ?_
    replace hf := g_bd hf
    obtain ⟨v_7, hv_7, hf⟩ := hf
    refine g_ald_i hx hb hK hW hv_7 dRef_formLength_11 ?_
    refine lv_imul hx hb dRef_formLength_12 ?_
    refine lv_goto (tgt := 22) hx hb dRef_formLength_13 (by decide) ?_
    cases hf
    exact g_reti hx hb hr hlocks hW hS (Nat.le_of_ble_eq_true rfl) (Nat.le_of_ble_eq_true rfl) dRef_formLength_22

def fRef_digit (n : Nat) (i0 : Int32) (z : gS) : Option (Int32 × gS) :=
    if 10 ≤ i0 then (
    some (((97 + i0) - 10), z))
    else (
    some ((48 + i0), z))
set_option maxHeartbeats 4000000 in
set_option maxRecDepth 100000 in
theorem mRef_digit (l : Launch) (D : va_G) (A : Nat → Prop) (n : Nat) (z z' : gS) (i0 : Int32) (r : Int32) (hf : fRef_digit n i0 z = some (r, z')) : Met l yRef_digit wsRef_digit ({ frames := 0, cells := 0, slots := 0, locals := 0 }) (g_P D vwCl gNN gOO A z [.int i0]) (g_Qi D vwCl A r z') 0 0 A := by
  refine Met.ofW (cc := cRef_digit) (maxL := 1) (ret := (some .int)) (by decide) rfl ?_
  intro p e s m args below meth c s₁ B hml hv
  obtain ⟨rfl, hW, hK, hA0⟩ := hv
  have C : g_C p s m meth c _ cRef_digit 1 (some .int) "SecretRowsModel" gW D vwCl gNN gOO A := ⟨B.exec, B.bytes, B.returns, hml, findClass_of_methodNamed B.named, fun w hw => atoms_spec (ws := wsRef_digit) B.pre w (List.mem_cons_of_mem _ hw), B.notSynchronized, hK, fun q hq => hA0 q (by rw [← hW.1]; exact hq)⟩
  have hS : va_S A s.heap s.heap [] := va_S.rf
  have hl := lv_entry ([.int i0]) (n := 1) (Nat.le_of_ble_eq_true rfl)
  rw [lg_entry_eq]
  generalize (lg_sl ([.int i0]) ++ List.replicate (1 - (lg_sl ([.int i0])).length) Slot.unset).toArray = ls at hl ⊢
  have hl : lv_has ls 1 [(0, .int i0)] := hl
  obtain ⟨hx, hb, hr, hml, hown, hts, hlocks, hK, hA⟩ := id C
  unfold fRef_digit at hf
  refine lv_iload_n hx hb dRef_digit_0 rfl (lv_at hl 0 rfl) ?_
  refine lv_bipush (v := 10) hx hb dRef_digit_1 (by decide) ?_
  refine lv_icmp_ge (tgt := 13) hx hb dRef_digit_3 (by decide) (fun c_1 => ?_) (fun c_1 => ?_)
  · replace hf := g_it c_1 hf
    refine lv_bipush (v := 97) hx hb dRef_digit_13 (by decide) ?_
    refine lv_iload_n hx hb dRef_digit_15 rfl (lv_at hl 0 rfl) ?_
    refine lv_iadd hx hb dRef_digit_16 ?_
    refine lv_bipush (v := 10) hx hb dRef_digit_17 (by decide) ?_
    refine lv_isub hx hb dRef_digit_19 ?_
    cases hf
    exact g_reti hx hb hr hlocks hW hS (Nat.le_of_ble_eq_true rfl) (Nat.le_of_ble_eq_true rfl) dRef_digit_20
  · replace hf := g_if c_1 hf
    refine lv_bipush (v := 48) hx hb dRef_digit_6 (by decide) ?_
    refine lv_iload_n hx hb dRef_digit_8 rfl (lv_at hl 0 rfl) ?_
    refine lv_iadd hx hb dRef_digit_9 ?_
    refine lv_goto (tgt := 20) hx hb dRef_digit_10 (by decide) ?_
    cases hf
    exact g_reti hx hb hr hlocks hW hS (Nat.le_of_ble_eq_true rfl) (Nat.le_of_ble_eq_true rfl) dRef_digit_20

def fRef_formSign (n : Nat) (a0 : Nat) (i1 : Int32) (i2 : Int32) (i3 : Int32) (z : gS) : Option (Int32 × gS) :=
    if i2 = 2 then (
    (g_fR z a0 9 9).bind fun r_11 =>
    r_11.bind fun a_12 =>
    (g_ldI z .int a_12 (((12 * i1) + (i3 / 2)))).bind fun v_13 =>
    if (i3 - i3 / 2 * 2) = 0 then (
    g_bp (fRef_digit n ((v_13 >>> (4 &&& 31)) &&& 15) z) fun v_18 z_17 =>
    some (v_18, z_17))
    else (
    g_bp (fRef_digit n ((v_13 >>> (0 &&& 31)) &&& 15) z) fun v_16 z_15 =>
    some (v_16, z_15)))
    else (
    (g_fR z a0 9 9).bind fun r_2 =>
    if i2 = 0 then (
    r_2.bind fun a_9 =>
    (g_ldI z .int a_9 ((12 * i1) + i3)).bind fun v_10 =>
    some (v_10, z))
    else (
    (g_fR z a0 9 8).bind fun r_4 =>
    r_4.bind fun a_5 =>
    (g_ldI z .int a_5 i1).bind fun v_6 =>
    r_2.bind fun a_7 =>
    (g_ldI z .int a_7 (((12 * i1) + ((v_6 - 1) - i3)))).bind fun v_8 =>
    some (v_8, z)))
set_option maxHeartbeats 4000000 in
set_option maxRecDepth 100000 in
theorem mRef_formSign (l : Launch) (D : va_G) (A : Nat → Prop) (n : Nat) (z z' : gS) (a0 : Nat) (i1 : Int32) (i2 : Int32) (i3 : Int32) (r : Int32) (hf : fRef_formSign n a0 i1 i2 i3 z = some (r, z')) : Met l yRef_formSign wsRef_formSign ({ frames := 1, cells := 0, slots := 0, locals := 20 }) (g_P D vwCl gNN gOO A z [.ref a0, .int i1, .int i2, .int i3]) (g_Qi D vwCl A r z') 0 0 A := by
  refine Met.ofW (cc := cRef_formSign) (maxL := 4) (ret := (some .int)) (by decide) rfl ?_
  intro p e s m args below meth c s₁ B hml hv
  obtain ⟨rfl, hW, hK, hA0⟩ := hv
  have C : g_C p s m meth c _ cRef_formSign 4 (some .int) "SecretRowsModel" gW D vwCl gNN gOO A := ⟨B.exec, B.bytes, B.returns, hml, findClass_of_methodNamed B.named, fun w hw => atoms_spec (ws := wsRef_formSign) B.pre w (List.mem_cons_of_mem _ hw), B.notSynchronized, hK, fun q hq => hA0 q (by rw [← hW.1]; exact hq)⟩
  have hS : va_S A s.heap s.heap [] := va_S.rf
  have hl := lv_entry ([.ref a0, .int i1, .int i2, .int i3]) (n := 4) (Nat.le_of_ble_eq_true rfl)
  rw [lg_entry_eq]
  generalize (lg_sl ([.ref a0, .int i1, .int i2, .int i3]) ++ List.replicate (4 - (lg_sl ([.ref a0, .int i1, .int i2, .int i3])).length) Slot.unset).toArray = ls at hl ⊢
  have hl : lv_has ls 4 [(0, .ref a0), (1, .int i1), (2, .int i2), (3, .int i3)] := hl
  obtain ⟨hx, hb, hr, hml, hown, hts, hlocks, hK, hA⟩ := id C
  unfold fRef_formSign at hf
  refine lv_iload_n hx hb dRef_formSign_0 rfl (lv_at hl 2 rfl) ?_
  refine lv_iconst (v := 2) hx hb dRef_formSign_1 (by decide) ?_
  refine lv_icmp_ne (tgt := 37) hx hb dRef_formSign_2 (by decide) (fun c_1 => ?_) (fun c_1 => ?_)
  · replace hf := g_if c_1 hf
    refine lv_aload_n hx hb dRef_formSign_37 rfl (lv_at hl 0 rfl) ?_
    replace hf := g_bd hf
    obtain ⟨r_2, hr_2, hf⟩ := hf
    refine g_getR hx hb hts in_Ref hown hK hW (ci := 9) (C := "SecretRowsModel") (T := T_Ref) (N := 36) rfl (k := 9) (by decide) (hts _ kw_529) (fun _ h9 => h9) hr_2 dRef_formSign_38 ?_
    refine lv_bipush (v := 12) hx hb dRef_formSign_41 (by decide) ?_
    refine lv_iload_n hx hb dRef_formSign_43 rfl (lv_at hl 1 rfl) ?_
    refine lv_imul hx hb dRef_formSign_44 ?_
    refine lv_iload_n hx hb dRef_formSign_45 rfl (lv_at hl 2 rfl) ?_
    refine lv_if_ne (tgt := 53) hx hb dRef_formSign_46 (by decide) (fun c_3 => ?_) (fun c_3 => ?_)
    · replace hf := g_if c_3 hf
      refine lv_aload_n hx hb dRef_formSign_53 rfl (lv_at hl 0 rfl) ?_
      replace hf := g_bd hf
      obtain ⟨r_4, hr_4, hf⟩ := hf
      refine g_getR hx hb hts in_Ref hown hK hW (ci := 9) (C := "SecretRowsModel") (T := T_Ref) (N := 36) rfl (k := 8) (by decide) (hts _ kw_528) (fun _ h9 => h9) hr_4 dRef_formSign_54 ?_
      refine lv_iload_n hx hb dRef_formSign_57 rfl (lv_at hl 1 rfl) ?_
      replace hf := g_bd hf
      obtain ⟨a_5, ea_5, hf⟩ := hf
      subst ea_5
      refine W.eq (g2 := F0 m 58 _ [.int i1, .ref a_5, .int (12 * i1), va_rf r_2]) rfl ?_
      replace hf := g_bd hf
      obtain ⟨v_6, hv_6, hf⟩ := hf
      refine g_ald_i hx hb hK hW hv_6 dRef_formSign_58 ?_
      refine lv_iconst (v := 1) hx hb dRef_formSign_59 (by decide) ?_
      refine lv_isub hx hb dRef_formSign_60 ?_
      refine lv_iload_n hx hb dRef_formSign_61 rfl (lv_at hl 3 rfl) ?_
      refine lv_isub hx hb dRef_formSign_62 ?_
      refine lv_iadd hx hb dRef_formSign_63 ?_
      replace hf := g_bd hf
      obtain ⟨a_7, ea_7, hf⟩ := hf
      subst ea_7
      refine W.eq (g2 := F0 m 64 _ [.int ((12 * i1) + ((v_6 - 1) - i3)), .ref a_7]) rfl ?_
      replace hf := g_bd hf
      obtain ⟨v_8, hv_8, hf⟩ := hf
      refine g_ald_i hx hb hK hW hv_8 dRef_formSign_64 ?_
      cases hf
      exact g_reti hx hb hr hlocks hW hS (Nat.le_of_ble_eq_true rfl) (Nat.le_of_ble_eq_true rfl) dRef_formSign_65
    · replace hf := g_it c_3 hf
      refine lv_iload_n hx hb dRef_formSign_49 rfl (lv_at hl 3 rfl) ?_
      refine lv_goto (tgt := 63) hx hb dRef_formSign_50 (by decide) ?_
      refine lv_iadd hx hb dRef_formSign_63 ?_
      replace hf := g_bd hf
      obtain ⟨a_9, ea_9, hf⟩ := hf
      subst ea_9
      refine W.eq (g2 := F0 m 64 _ [.int ((12 * i1) + i3), .ref a_9]) rfl ?_
      replace hf := g_bd hf
      obtain ⟨v_10, hv_10, hf⟩ := hf
      refine g_ald_i hx hb hK hW hv_10 dRef_formSign_64 ?_
      cases hf
      exact g_reti hx hb hr hlocks hW hS (Nat.le_of_ble_eq_true rfl) (Nat.le_of_ble_eq_true rfl) dRef_formSign_65
  · replace hf := g_it c_1 hf
    refine lv_aload_n hx hb dRef_formSign_5 rfl (lv_at hl 0 rfl) ?_
    replace hf := g_bd hf
    obtain ⟨r_11, hr_11, hf⟩ := hf
    refine g_getR hx hb hts in_Ref hown hK hW (ci := 9) (C := "SecretRowsModel") (T := T_Ref) (N := 36) rfl (k := 9) (by decide) (hts _ kw_529) (fun _ h9 => h9) hr_11 dRef_formSign_6 ?_
    refine lv_bipush (v := 12) hx hb dRef_formSign_9 (by decide) ?_
    refine lv_iload_n hx hb dRef_formSign_11 rfl (lv_at hl 1 rfl) ?_
    refine lv_imul hx hb dRef_formSign_12 ?_
    refine lv_iload_n hx hb dRef_formSign_13 rfl (lv_at hl 3 rfl) ?_
    refine lv_iconst (v := 2) hx hb dRef_formSign_14 (by decide) ?_
    refine lv_idiv hx hb dRef_formSign_15 (by decide) ?_
    refine lv_iadd hx hb dRef_formSign_16 ?_
    replace hf := g_bd hf
    obtain ⟨a_12, ea_12, hf⟩ := hf
    subst ea_12
    refine W.eq (g2 := F0 m 17 _ [.int ((12 * i1) + (i3 / 2)), .ref a_12]) rfl ?_
    replace hf := g_bd hf
    obtain ⟨v_13, hv_13, hf⟩ := hf
    refine g_ald_i hx hb hK hW hv_13 dRef_formSign_17 ?_
    refine lv_iload_n hx hb dRef_formSign_18 rfl (lv_at hl 3 rfl) ?_
    refine lv_iconst (v := 2) hx hb dRef_formSign_19 (by decide) ?_
    refine lv_irem hx hb dRef_formSign_20 (by decide) ?_
    refine lv_if_ne (tgt := 28) hx hb dRef_formSign_21 (by decide) (fun c_14 => ?_) (fun c_14 => ?_)
    · replace hf := g_if c_14 hf
      refine lv_iconst (v := 0) hx hb dRef_formSign_28 (by decide) ?_
      refine lv_ishr hx hb dRef_formSign_29 ?_
      refine lv_bipush (v := 15) hx hb dRef_formSign_30 (by decide) ?_
      refine lv_iand hx hb dRef_formSign_32 ?_
      replace hf := g_bps hf
      obtain ⟨v_16, z_15, hz_15, hf⟩ := hf
      refine g_goi (g_rS (As := [.int ((v_13 >>> (0 &&& 31)) &&& 15)]) (rest := []) ⟨hx, hb, hml, hown, hts⟩ (mRef_digit l D A n _ _ ((v_13 >>> (0 &&& 31)) &&& 15) _ hz_15) (cwS 1 hts (gi_S kw_708 kw_709 kw_6 kw_710) rfl rfl rfl ⟨rfl, hdRef_digit⟩ ⟨Nat.le_of_ble_eq_true rfl, Nat.le_of_ble_eq_true rfl⟩) hK hW hS hA rfl hl.1 rfl (Nat.le_of_ble_eq_true rfl) dRef_formSign_33 ⟨Nat.le_of_ble_eq_true rfl, Nat.le_of_ble_eq_true rfl⟩) hS (fun H locs hW hS => ?_)
      cases hf
      exact g_reti hx hb hr hlocks hW hS (Nat.le_of_ble_eq_true rfl) (Nat.le_of_ble_eq_true rfl) dRef_formSign_36
    · replace hf := g_it c_14 hf
      refine lv_iconst (v := 4) hx hb dRef_formSign_24 (by decide) ?_
      refine lv_goto (tgt := 29) hx hb dRef_formSign_25 (by decide) ?_
      refine lv_ishr hx hb dRef_formSign_29 ?_
      refine lv_bipush (v := 15) hx hb dRef_formSign_30 (by decide) ?_
      refine lv_iand hx hb dRef_formSign_32 ?_
      replace hf := g_bps hf
      obtain ⟨v_18, z_17, hz_17, hf⟩ := hf
      refine g_goi (g_rS (As := [.int ((v_13 >>> (4 &&& 31)) &&& 15)]) (rest := []) ⟨hx, hb, hml, hown, hts⟩ (mRef_digit l D A n _ _ ((v_13 >>> (4 &&& 31)) &&& 15) _ hz_17) (cwS 1 hts (gi_S kw_708 kw_709 kw_6 kw_710) rfl rfl rfl ⟨rfl, hdRef_digit⟩ ⟨Nat.le_of_ble_eq_true rfl, Nat.le_of_ble_eq_true rfl⟩) hK hW hS hA rfl hl.1 rfl (Nat.le_of_ble_eq_true rfl) dRef_formSign_33 ⟨Nat.le_of_ble_eq_true rfl, Nat.le_of_ble_eq_true rfl⟩) hS (fun H locs hW hS => ?_)
      cases hf
      exact g_reti hx hb hr hlocks hW hS (Nat.le_of_ble_eq_true rfl) (Nat.le_of_ble_eq_true rfl) dRef_formSign_36

def fRef_common_L3 (n : Nat) : Nat → Nat → Nat → Int32 → Int32 → Int32 → Int32 → Int32 → gS → Option (Int32 × gS)
  | 0, _, _, _, _, _, _, _, _ => none
  | k + 1, a0b, a1b, i2b, i3b, i4b, i5b, i6b, z =>
    (g_is z a0b 9).bind fun _ =>
    g_bp (fRef_formLength n a0b i4b i5b z) fun v_3 z_2 =>
    if v_3 ≤ i6b then (
    some (i6b, z_2))
    else (
    if i3b ≤ (i2b + i6b) then (
    some (i6b, z_2))
    else (
    (g_ldI z_2 .int a1b (i2b + i6b)).bind fun v_6 =>
    (g_is z_2 a0b 9).bind fun _ =>
    g_bp (fRef_formSign n a0b i4b i5b i6b z_2) fun v_9 z_8 =>
    if v_6 = v_9 then (
    fRef_common_L3 n k a0b a1b i2b i3b i4b i5b (i6b + 1) z_8)
    else (
    some (i6b, z_8))))
set_option maxHeartbeats 4000000 in
set_option maxRecDepth 100000 in
theorem bRef_common_3 {p : Program} {l : Launch} {e : Env} {s : State} {m : MethodId} {args : Array Value} {below : List Frame} {meth : Method} {c : Code} {D : va_G} {A : Nat → Prop} (C : g_C p s m meth c args cRef_common 7 (some .int) "SecretRowsModel" gW D vwCl gNN gOO A) (n : Nat) {r : Int32} {z' : gS} : ∀ k : Nat, ∀ (a0b : Nat) (a1b : Nat) (i2b : Int32) (i3b : Int32) (i4b : Int32) (i5b : Int32) (i6b : Int32) (z : gS) (H : Heap) (locs : List Loc) (ls : Array Slot), fRef_common_L3 n k a0b a1b i2b i3b i4b i5b i6b z = some (r, z') → g_W D vwCl A z s H → va_S A s.heap H locs → lv_has ls 7 [(0, .ref a0b), (1, .ref a1b), (2, .int i2b), (3, .int i3b), (4, .int i4b), (5, .int i5b), (6, .int i6b)] → W p l e (headSpec wsRef_common ({ frames := 2, cells := 0, slots := 0, locals := 43 })).room s m args below meth c H locs 0 0 (MQ below (g_Qi D vwCl A r z') args s 0 0 A) (F0 m 3 ls []) := by
  obtain ⟨hx, hb, hr, hml, hown, hts, hlocks, hK, hA⟩ := id C
  intro k
  induction k with
  | zero =>
    intro a0b a1b i2b i3b i4b i5b i6b z H locs ls hf
    have hf : (none : Option (Int32 × gS)) = some _ := hf
    cases hf
  | succ k ih =>
    intro a0b a1b i2b i3b i4b i5b i6b z H locs ls hf hW hS hl
    rw [fRef_common_L3] at hf
    refine lv_iload hx hb dRef_common_3 (lv_at hl 6 rfl) ?_
    refine lv_aload_n hx hb dRef_common_5 rfl (lv_at hl 0 rfl) ?_
    refine lv_iload hx hb dRef_common_6 (lv_at hl 4 rfl) ?_
    refine lv_iload hx hb dRef_common_8 (lv_at hl 5 rfl) ?_
    replace hf := g_bd hf
    obtain ⟨_, hi_1, hf⟩ := hf
    replace hf := g_bps hf
    obtain ⟨v_3, z_2, hz_2, hf⟩ := hf
    refine g_goi (g_rV (As := [.int i4b, .int i5b]) (rest := [.int i6b]) ⟨hx, hb, hml, hown, hts⟩ (mRef_formLength l D A n _ _ a0b i4b i5b _ hz_2) (cwV 2 hts (gi_V kw_700 kw_702 ks_Ref_formLength kw_6 kw_703) rfl rfl rfl ⟨rfl, hdRef_formLength⟩ ⟨Nat.le_of_ble_eq_true rfl, Nat.le_of_ble_eq_true rfl⟩) hK hW hS hA (ci := 9) (T := T_Ref) (N := 36) rfl hi_1 rfl hl.1 rfl (Nat.le_of_ble_eq_true rfl) dRef_common_10 ⟨Nat.le_of_ble_eq_true rfl, Nat.le_of_ble_eq_true rfl⟩) hS (fun H locs hW hS => ?_)
    refine lv_icmp_ge (tgt := 49) hx hb dRef_common_13 (by decide) (fun c_4 => ?_) (fun c_4 => ?_)
    · replace hf := g_it c_4 hf
      refine lv_iload hx hb dRef_common_49 (lv_at hl 6 rfl) ?_
      cases hf
      exact g_reti hx hb hr hlocks hW hS (Nat.le_of_ble_eq_true rfl) (Nat.le_of_ble_eq_true rfl) dRef_common_51
    · replace hf := g_if c_4 hf
      refine lv_iload_n hx hb dRef_common_16 rfl (lv_at hl 2 rfl) ?_
      refine lv_iload hx hb dRef_common_17 (lv_at hl 6 rfl) ?_
      refine lv_iadd hx hb dRef_common_19 ?_
      refine lv_iload_n hx hb dRef_common_20 rfl (lv_at hl 3 rfl) ?_
      refine lv_icmp_ge (tgt := 49) hx hb dRef_common_21 (by decide) (fun c_5 => ?_) (fun c_5 => ?_)
      · replace hf := g_it c_5 hf
        refine lv_iload hx hb dRef_common_49 (lv_at hl 6 rfl) ?_
        cases hf
        exact g_reti hx hb hr hlocks hW hS (Nat.le_of_ble_eq_true rfl) (Nat.le_of_ble_eq_true rfl) dRef_common_51
      · replace hf := g_if c_5 hf
        refine lv_aload_n hx hb dRef_common_24 rfl (lv_at hl 1 rfl) ?_
        refine lv_iload_n hx hb dRef_common_25 rfl (lv_at hl 2 rfl) ?_
        refine lv_iload hx hb dRef_common_26 (lv_at hl 6 rfl) ?_
        refine lv_iadd hx hb dRef_common_28 ?_
        replace hf := g_bd hf
        obtain ⟨v_6, hv_6, hf⟩ := hf
        refine g_ald_i hx hb hK hW hv_6 dRef_common_29 ?_
        refine lv_aload_n hx hb dRef_common_30 rfl (lv_at hl 0 rfl) ?_
        refine lv_iload hx hb dRef_common_31 (lv_at hl 4 rfl) ?_
        refine lv_iload hx hb dRef_common_33 (lv_at hl 5 rfl) ?_
        refine lv_iload hx hb dRef_common_35 (lv_at hl 6 rfl) ?_
        replace hf := g_bd hf
        obtain ⟨_, hi_7, hf⟩ := hf
        replace hf := g_bps hf
        obtain ⟨v_9, z_8, hz_8, hf⟩ := hf
        refine g_goi (g_rV (As := [.int i4b, .int i5b, .int i6b]) (rest := [.int v_6]) ⟨hx, hb, hml, hown, hts⟩ (mRef_formSign l D A n _ _ a0b i4b i5b i6b _ hz_8) (cwV 3 hts (gi_V kw_704 kw_706 ks_Ref_formSign kw_6 kw_707) rfl rfl rfl ⟨rfl, hdRef_formSign⟩ ⟨Nat.le_of_ble_eq_true rfl, Nat.le_of_ble_eq_true rfl⟩) hK hW hS hA (ci := 9) (T := T_Ref) (N := 36) rfl hi_7 rfl hl.1 rfl (Nat.le_of_ble_eq_true rfl) dRef_common_37 ⟨Nat.le_of_ble_eq_true rfl, Nat.le_of_ble_eq_true rfl⟩) hS (fun H locs hW hS => ?_)
        refine lv_icmp_ne (tgt := 49) hx hb dRef_common_40 (by decide) (fun c_10 => ?_) (fun c_10 => ?_)
        · replace hf := g_if c_10 hf
          refine lv_iload hx hb dRef_common_49 (lv_at hl 6 rfl) ?_
          cases hf
          exact g_reti hx hb hr hlocks hW hS (Nat.le_of_ble_eq_true rfl) (Nat.le_of_ble_eq_true rfl) dRef_common_51
        · replace hf := g_it c_10 hf
          refine lv_iinc (v := (i6b + 1)) (lv' := [(6, .int (i6b + 1)), (0, .ref a0b), (1, .ref a1b), (2, .int i2b), (3, .int i3b), (4, .int i4b), (5, .int i5b)]) hx hb dRef_common_43 hl (k := 6) rfl rfl (by decide) rfl (fun _ hl1 => ?_)
          clear hl
          have hl := hl1
          clear hl1
          refine lv_goto (tgt := 3) hx hb dRef_common_46 (by decide) ?_
          exact ih a0b a1b i2b i3b i4b i5b (i6b + 1) _ _ _ _ hf hW hS (lv_sub hl [1, 2, 3, 4, 5, 6, 0] rfl)
def fRef_common (n : Nat) (a0 : Nat) (a1 : Nat) (i2 : Int32) (i3 : Int32) (i4 : Int32) (i5 : Int32) (z : gS) : Option (Int32 × gS) :=
    fRef_common_L3 n n a0 a1 i2 i3 i4 i5 0 z
set_option maxHeartbeats 4000000 in
set_option maxRecDepth 100000 in
theorem mRef_common (l : Launch) (D : va_G) (A : Nat → Prop) (n : Nat) (z z' : gS) (a0 : Nat) (a1 : Nat) (i2 : Int32) (i3 : Int32) (i4 : Int32) (i5 : Int32) (r : Int32) (hf : fRef_common n a0 a1 i2 i3 i4 i5 z = some (r, z')) : Met l yRef_common wsRef_common ({ frames := 2, cells := 0, slots := 0, locals := 43 }) (g_P D vwCl gNN gOO A z [.ref a0, .ref a1, .int i2, .int i3, .int i4, .int i5]) (g_Qi D vwCl A r z') 0 0 A := by
  refine Met.ofW (cc := cRef_common) (maxL := 7) (ret := (some .int)) (by decide) rfl ?_
  intro p e s m args below meth c s₁ B hml hv
  obtain ⟨rfl, hW, hK, hA0⟩ := hv
  have C : g_C p s m meth c _ cRef_common 7 (some .int) "SecretRowsModel" gW D vwCl gNN gOO A := ⟨B.exec, B.bytes, B.returns, hml, findClass_of_methodNamed B.named, fun w hw => atoms_spec (ws := wsRef_common) B.pre w (List.mem_cons_of_mem _ hw), B.notSynchronized, hK, fun q hq => hA0 q (by rw [← hW.1]; exact hq)⟩
  have hS : va_S A s.heap s.heap [] := va_S.rf
  have hl := lv_entry ([.ref a0, .ref a1, .int i2, .int i3, .int i4, .int i5]) (n := 7) (Nat.le_of_ble_eq_true rfl)
  rw [lg_entry_eq]
  generalize (lg_sl ([.ref a0, .ref a1, .int i2, .int i3, .int i4, .int i5]) ++ List.replicate (7 - (lg_sl ([.ref a0, .ref a1, .int i2, .int i3, .int i4, .int i5])).length) Slot.unset).toArray = ls at hl ⊢
  have hl : lv_has ls 7 [(0, .ref a0), (1, .ref a1), (2, .int i2), (3, .int i3), (4, .int i4), (5, .int i5)] := hl
  obtain ⟨hx, hb, hr, hml, hown, hts, hlocks, hK, hA⟩ := id C
  unfold fRef_common at hf
  refine lv_iconst (v := 0) hx hb dRef_common_0 (by decide) ?_
  refine lv_istore (lv' := [(6, .int 0), (0, .ref a0), (1, .ref a1), (2, .int i2), (3, .int i3), (4, .int i4), (5, .int i5)]) hx hb dRef_common_1 hl (by decide) rfl (fun _ hl1 => ?_)
  clear hl
  have hl := hl1
  clear hl1
  exact bRef_common_3 C n n a0 a1 i2 i3 i4 i5 0 _ _ _ _ hf hW hS (lv_sub hl [1, 2, 3, 4, 5, 6, 0] rfl)

def fRef_tell (n : Nat) (a0 : Nat) (i1 : Int32) (i2 : Int32) (z : gS) : Option (gS) :=
    (g_fR z a0 9 23).bind fun r_1 =>
    (g_fR z a0 9 24).bind fun r_2 =>
    r_2.bind fun a_3 =>
    (g_ldI z .int a_3 i1).bind fun v_4 =>
    r_1.bind fun a_5 =>
    (g_stI z .int a_5 ((300 * i1) + v_4) i2).bind fun z_6 =>
    (g_fR z_6 a0 9 24).bind fun r_7 =>
    r_7.bind fun a_8 =>
    (g_ldI z_6 .int a_8 i1).bind fun v_9 =>
    (g_stI z_6 .int a_8 i1 (v_9 + 1)).bind fun z_10 =>
    some z_10
set_option maxHeartbeats 4000000 in
set_option maxRecDepth 100000 in
theorem mRef_tell (l : Launch) (D : va_G) (A : Nat → Prop) (n : Nat) (z z' : gS) (a0 : Nat) (i1 : Int32) (i2 : Int32) (hf : fRef_tell n a0 i1 i2 z = some z') : Met l yRef_tell wsRef_tell ({ frames := 0, cells := 0, slots := 0, locals := 0 }) (g_P D vwCl gNN gOO A z [.ref a0, .int i1, .int i2]) (g_Qv D vwCl A z') 0 0 A := by
  refine Met.ofW (cc := cRef_tell) (maxL := 3) (ret := none) (by decide) rfl ?_
  intro p e s m args below meth c s₁ B hml hv
  obtain ⟨rfl, hW, hK, hA0⟩ := hv
  have C : g_C p s m meth c _ cRef_tell 3 none "SecretRowsModel" gW D vwCl gNN gOO A := ⟨B.exec, B.bytes, B.returns, hml, findClass_of_methodNamed B.named, fun w hw => atoms_spec (ws := wsRef_tell) B.pre w (List.mem_cons_of_mem _ hw), B.notSynchronized, hK, fun q hq => hA0 q (by rw [← hW.1]; exact hq)⟩
  have hS : va_S A s.heap s.heap [] := va_S.rf
  have hl := lv_entry ([.ref a0, .int i1, .int i2]) (n := 3) (Nat.le_of_ble_eq_true rfl)
  rw [lg_entry_eq]
  generalize (lg_sl ([.ref a0, .int i1, .int i2]) ++ List.replicate (3 - (lg_sl ([.ref a0, .int i1, .int i2])).length) Slot.unset).toArray = ls at hl ⊢
  have hl : lv_has ls 3 [(0, .ref a0), (1, .int i1), (2, .int i2)] := hl
  obtain ⟨hx, hb, hr, hml, hown, hts, hlocks, hK, hA⟩ := id C
  unfold fRef_tell at hf
  refine lv_aload_n hx hb dRef_tell_0 rfl (lv_at hl 0 rfl) ?_
  replace hf := g_bd hf
  obtain ⟨r_1, hr_1, hf⟩ := hf
  refine g_getR hx hb hts in_Ref hown hK hW (ci := 9) (C := "SecretRowsModel") (T := T_Ref) (N := 36) rfl (k := 23) (by decide) (hts _ kw_543) (fun _ h9 => h9) hr_1 dRef_tell_1 ?_
  refine lv_sipush (v := 300) hx hb dRef_tell_4 (by decide) ?_
  refine lv_iload_n hx hb dRef_tell_7 rfl (lv_at hl 1 rfl) ?_
  refine lv_imul hx hb dRef_tell_8 ?_
  refine lv_aload_n hx hb dRef_tell_9 rfl (lv_at hl 0 rfl) ?_
  replace hf := g_bd hf
  obtain ⟨r_2, hr_2, hf⟩ := hf
  refine g_getR hx hb hts in_Ref hown hK hW (ci := 9) (C := "SecretRowsModel") (T := T_Ref) (N := 36) rfl (k := 24) (by decide) (hts _ kw_544) (fun _ h9 => h9) hr_2 dRef_tell_10 ?_
  refine lv_iload_n hx hb dRef_tell_13 rfl (lv_at hl 1 rfl) ?_
  replace hf := g_bd hf
  obtain ⟨a_3, ea_3, hf⟩ := hf
  subst ea_3
  refine W.eq (g2 := F0 m 14 _ [.int i1, .ref a_3, .int (300 * i1), va_rf r_1]) rfl ?_
  replace hf := g_bd hf
  obtain ⟨v_4, hv_4, hf⟩ := hf
  refine g_ald_i hx hb hK hW hv_4 dRef_tell_14 ?_
  refine lv_iadd hx hb dRef_tell_15 ?_
  refine lv_iload_n hx hb dRef_tell_16 rfl (lv_at hl 2 rfl) ?_
  replace hf := g_bd hf
  obtain ⟨a_5, ea_5, hf⟩ := hf
  subst ea_5
  refine W.eq (g2 := F0 m 17 _ [.int i2, .int ((300 * i1) + v_4), .ref a_5]) rfl ?_
  replace hf := g_bd hf
  obtain ⟨z_6, hz_6, hf⟩ := hf
  refine g_ast_i hx hb hW hS hz_6 dRef_tell_17 (fun H locs hW hS => ?_)
  refine lv_aload_n hx hb dRef_tell_18 rfl (lv_at hl 0 rfl) ?_
  replace hf := g_bd hf
  obtain ⟨r_7, hr_7, hf⟩ := hf
  refine g_getR hx hb hts in_Ref hown hK hW (ci := 9) (C := "SecretRowsModel") (T := T_Ref) (N := 36) rfl (k := 24) (by decide) (hts _ kw_544) (fun _ h9 => h9) hr_7 dRef_tell_19 ?_
  refine lv_iload_n hx hb dRef_tell_22 rfl (lv_at hl 1 rfl) ?_
  refine lv_dup2_11 hx hb dRef_tell_23 rfl (g_cat _) ?_
  replace hf := g_bd hf
  obtain ⟨a_8, ea_8, hf⟩ := hf
  subst ea_8
  refine W.eq (g2 := F0 m 24 _ [.int i1, .ref a_8, .int i1, .ref a_8]) rfl ?_
  replace hf := g_bd hf
  obtain ⟨v_9, hv_9, hf⟩ := hf
  refine g_ald_i hx hb hK hW hv_9 dRef_tell_24 ?_
  refine lv_iconst (v := 1) hx hb dRef_tell_25 (by decide) ?_
  refine lv_iadd hx hb dRef_tell_26 ?_
  replace hf := g_bd hf
  obtain ⟨z_10, hz_10, hf⟩ := hf
  refine g_ast_i hx hb hW hS hz_10 dRef_tell_27 (fun H locs hW hS => ?_)
  cases hf
  exact g_retv hx hb hr hlocks hW hS (Nat.le_of_ble_eq_true rfl) (Nat.le_of_ble_eq_true rfl) dRef_tell_28
