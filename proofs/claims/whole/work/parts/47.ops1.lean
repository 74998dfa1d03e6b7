/-! the calls, one by one -/
theorem op_leak (n x y : Nat) : OP_leak n x y (Sim x y) := by
  intro G1 G2 sz v0 hS
  obtain ⟨ad, ce, bd, iv, fa, sI, sO, sL, sN, au, rfl, rfl, hC, hR, hRS, hV⟩ := hS
  obtain ⟨z2, e2, hR2, hz2⟩ := r_p0 hR 0
  have hm := c_m hC
  obtain ⟨⟨-, -, -, -, -, -, -, i33, i345⟩, -⟩ := id hRS
  obtain ⟨-, hL, -⟩ := id hV
  have hI33 : g_fI z2 (bd 0) 9 33 = some (sI 8 0) := by rw [r_I hR2 33 rfl]; exact congrArg some i33
  have A : fMain_leak n (ad 0 0) v0 (G1, sz) = some (if v0 = 0 then sI 8 0 else if v0 = 1 then sI 8 1 else if v0 = 2 then sI 8 2 else -1, (G1, sz)) := by
    unfold fMain_leak
    rw [q_fI hm (k := 11) (x := sI 8 0) rfl, q_fI hm (k := 12) (x := sI 8 1) rfl, q_fI hm (k := 13) (x := sI 8 2) rfl]
    simp only [Option.bind_some]
    repeat' split
    all_goals rfl
  have B : fRef_leak n (bd 0) v0 (G2, sz) = some (if v0 = 0 then sI 8 0 else if v0 = 1 then sI 8 1 else if v0 = 2 then sI 8 2 else -1, z2) := by
    unfold fRef_leak
    rw [e2, Option.bind_some, hI33, Option.bind_some]
    by_cases h8 : sI 8 0 = -1
    · obtain ⟨a1, a2⟩ := hL h8
      rw [if_pos h8, h8, a1, a2]
      simp
    · obtain ⟨i34, i35⟩ := i345 h8
      have hI34 : g_fI z2 (bd 0) 9 34 = some (sI 8 1) := by rw [r_I hR2 34 rfl]; exact congrArg some i34
      have hI35 : g_fI z2 (bd 0) 9 35 = some (sI 8 2) := by rw [r_I hR2 35 rfl]; exact congrArg some i35
      rw [if_neg h8, hI34, hI35]
      simp only [Option.bind_some]
      repeat' split
      all_goals rfl
  exact ⟨_, _, _, A, B, sim_mk rfl rfl hC hR2 hz2 (hRS.code 0) hV⟩
theorem op_tick (n x y : Nat) : OP_tick n x y (Sim x y) := by
  intro G1 G2 sz v0 hS
  obtain ⟨ad, ce, bd, iv, fa, sI, sO, sL, sN, au, rfl, rfl, hC, hR, hRS, hV⟩ := hS
  obtain ⟨z2, e2, hR2, hz2⟩ := r_p0 hR 0
  have hm := c_m hC
  obtain ⟨⟨c, hc, hcl⟩, hV2⟩ := id hV
  have hI1 : g_fI z2 (bd 0) 9 1 = some (sI 7 0) := by rw [r_I hR2 1 rfl]; exact congrArg some hRS.1.1
  by_cases c0 : v0 < 0
  · have A : fMain_tick n (ad 0 0) v0 (G1, sz) = some (-1, (G1, sz)) := by unfold fMain_tick; rw [if_pos c0]
    have B : fRef_tick n (bd 0) v0 (G2, sz) = some (-1, z2) := by unfold fRef_tick; rw [e2, Option.bind_some, if_pos c0]
    exact ⟨_, _, _, A, B, sim_mk rfl rfl hC hR2 hz2 (hRS.code 0) hV⟩
  by_cases c1 : 100000 < v0
  · have A : fMain_tick n (ad 0 0) v0 (G1, sz) = some (-1, (G1, sz)) := by unfold fMain_tick; rw [if_neg c0, if_pos c1]
    have B : fRef_tick n (bd 0) v0 (G2, sz) = some (-1, z2) := by unfold fRef_tick; rw [e2, Option.bind_some, if_neg c0, if_pos c1]
    exact ⟨_, _, _, A, B, sim_mk rfl rfl hC hR2 hz2 (hRS.code 0) hV⟩
  obtain ⟨j, hj, rfl⟩ := nI_of2 (M := 100000) (n := 100000) (by decide) c0 (Int32.not_lt.mp c1)
  have e3 : (1000000000 : Int32) - nI j = nI (1000000000 - j) := pk_sub (a := 1000000000) (by omega)
  by_cases c2 : c + j ≤ 1000000000
  · have c3 : nI c ≤ nI (1000000000 - j) := (nI_leI (by omega) (by omega)).mpr (by omega)
    have c4 : nI (c + j) ≤ (1000000000 : Int32) := (nI_leI (b := 1000000000) (by omega) (by omega)).mpr c2
    have hC' := C1.ints (sI' := ru sI 7 0 (nI (c + j))) hC (fun t i ht => ru_t _ _ (by omega))
    obtain ⟨z3, e4, hR3, hz3⟩ := r_p1 hR2 (nI (c + j))
    have hm' := c_m hC'
    have A : fMain_tick n (ad 0 0) (nI j) (G1, sz) = some (nI (c + j), g_up (G1, sz) (ad 0 0) (cM ad (ru sI 7 0 (nI (c + j))) sN)) := by
      unfold fMain_tick
      rw [if_neg c0, if_neg c1, q_fI hm (k := 10) (x := sI 7 0) rfl, Option.bind_some, hcl, e3, if_pos c3, Option.bind_some, nI_add, q_pF hm (Nat.le_of_ble_eq_true rfl), Option.bind_some]
      show (g_fI (g_up (G1, sz) (ad 0 0) (cM ad (ru sI 7 0 (nI (c + j))) sN)) (ad 0 0) 8 10).bind _ = _
      rw [q_fI hm' (k := 10) (x := nI (c + j)) rfl, Option.bind_some]
      rfl
    have B : fRef_tick n (bd 0) (nI j) (G2, sz) = some (nI (c + j), z3) := by
      unfold fRef_tick
      rw [e2, Option.bind_some, if_neg c0, if_neg c1, hI1, Option.bind_some, hcl, nI_add, if_pos c4, Option.bind_some, nI_add, e4, Option.bind_some, r_I hR3 1 rfl, Option.bind_some]
      rfl
    refine ⟨_, _, _, A, B, sim_mk rfl rfl hC' hR3 (hz3.trans hz2) ?_ ?_⟩
    · obtain ⟨⟨a1, a2, a3, a4, a5, a6, a7, a8, a9⟩, b⟩ := hRS
      exact ⟨⟨rfl, a2, a3, a4, a5, a6, a7, a8, a9⟩, b⟩
    · exact ⟨⟨c + j, c2, rfl⟩, hV2⟩
  · have c3 : ¬ nI c ≤ nI (1000000000 - j) := fun h => c2 (by have := (nI_leI (by omega) (by omega)).mp h; omega)
    have c4 : ¬ nI (c + j) ≤ (1000000000 : Int32) := fun h => c2 ((nI_leI (b := 1000000000) (by omega) (by omega)).mp h)
    have A : fMain_tick n (ad 0 0) (nI j) (G1, sz) = some (-1, (G1, sz)) := by
      unfold fMain_tick
      rw [if_neg c0, if_neg c1, q_fI hm (k := 10) (x := sI 7 0) rfl, Option.bind_some, hcl, e3, if_neg c3]
    have B : fRef_tick n (bd 0) (nI j) (G2, sz) = some (-1, z2) := by
      unfold fRef_tick
      rw [e2, Option.bind_some, if_neg c0, if_neg c1, hI1, Option.bind_some, hcl, nI_add, if_neg c4]
    exact ⟨_, _, _, A, B, sim_mk rfl rfl hC hR2 hz2 (hRS.code 0) hV⟩
theorem tC_ok {x : Int32} (h : cOK x) : tC x = x := by
  obtain ⟨j, h1, h2, rfl⟩ := h
  have : ∀ j : Fin 127, tC (nI j.val) = nI j.val := by decide +kernel
  exact this ⟨j, by omega⟩
theorem i_char (v : Int32) : ∃ j : Nat, j < 65536 ∧ (v.toUInt32 % 65536).toInt32 = nI j := ⟨_, Nat.mod_lt _ (by omega), pk_char v⟩
theorem op_type (n x y : Nat) : OP_type n x y (Sim x y) := by
  intro G1 G2 sz v0 hS
  obtain ⟨j, hj, ej⟩ := i_char v0
  rw [ej]
  obtain ⟨ad, ce, bd, iv, fa, sI, sO, sL, sN, au, rfl, rfl, hC, hR, hRS, hV⟩ := hS
  obtain ⟨z2, e2, hR2, hz2⟩ := r_p0 hR 0
  have hm := c_m hC
  have ht := hC.tpx
  have hI18 : g_fI z2 (bd 0) 9 18 = some (nI (sL 3 0).length) := by rw [r_I hR2 18 rfl]; exact congrArg some hRS.1.2.2.2.2.2.2.1
  have no : fMain_type n (ad 0 0) (nI j) (G1, sz) = some (0, (G1, sz)) → fRef_type n (bd 0) (nI j) (G2, sz) = some (0, z2) → ∃ (r : Int32) (z1 z2 : gS), fMain_type n (ad 0 0) (nI j) (G1, sz) = some (r, z1) ∧ fRef_type n (bd 0) (nI j) (G2, z1.2) = some (r, z2) ∧ Sim (ad 0 0) (bd 0) z1.1 z2.1 z2.2 := fun a b => ⟨0, (G1, sz), z2, a, b, sim_mk rfl rfl hC hR2 hz2 (hRS.code 0) hV⟩
  by_cases c0 : nI j < 32
  · exact no (by unfold fMain_type; rw [if_pos c0]) (by unfold fRef_type; rw [e2, Option.bind_some, if_pos c0])
  by_cases c1 : 126 < nI j
  · exact no (by unfold fMain_type; rw [if_neg c0, if_pos c1]) (by unfold fRef_type; rw [e2, Option.bind_some, if_neg c0, if_pos c1])
  have hj1 : 32 ≤ j := Nat.not_lt.mp fun h => c0 ((nI_ltI (b := 32) (by omega) (by omega)).mpr h)
  have hj2 : j ≤ 126 := Nat.not_lt.mp fun h => c1 ((nI_ltI (a := 126) (by omega) (by omega)).mpr h)
  have hok : cOK (nI j) := ⟨j, hj1, hj2, rfl⟩
  have hlen : (sL 3 0).length ≤ 300 := ht.2.1
  by_cases c2 : (sL 3 0).length = 300
  · refine no ?_ ?_
    · unfold fMain_type
      rw [if_neg c0, if_neg c1, q_fR hm (k := 4) (r := some (ad 6 0)) rfl, Option.bind_some, Option.bind_some, q_is ht.1, Option.bind_some, q_bp (tx_add0 ht (by omega) n (nI j)), if_pos rfl]
    · unfold fRef_type
      rw [e2, Option.bind_some, if_neg c0, if_neg c1, hI18, Option.bind_some, c2, if_pos (show nI 300 = 300 from rfl)]
  · obtain ⟨z1, e1, t1, s1, o1⟩ := tx_add1 ht (by omega) n (nI j)
    rw [tC_ok hok] at t1
    obtain ⟨ce', hC'⟩ := hC.tape t1 s1 o1
    obtain ⟨z3, e3, hR3, hz3⟩ := r_st hR2 (k := 17) (ty := .int) (by unfold aK; omega) rfl (j := (sL 3 0).length) (by show _ < 300; omega) (nI j)
    obtain ⟨z4, e4, hR4, hz4⟩ := r_p18 hR3 (nI (sL 3 0).length + 1)
    have A : fMain_type n (ad 0 0) (nI j) (G1, sz) = some (1, z1) := by
      unfold fMain_type
      rw [if_neg c0, if_neg c1, q_fR hm (k := 4) (r := some (ad 6 0)) rfl, Option.bind_some, Option.bind_some, q_is ht.1, Option.bind_some, q_bp e1, if_neg (by decide)]
    have B : fRef_type n (bd 0) (nI j) (G2, z1.2) = some (1, z4) := by
      rw [s1]
      unfold fRef_type
      have hI18' : g_fI z3 (bd 0) 9 18 = some (nI (sL 3 0).length) := by rw [r_I hR3 18 rfl]; exact congrArg some hRS.1.2.2.2.2.2.2.1
      rw [e2, Option.bind_some, if_neg c0, if_neg c1, hI18, Option.bind_some, if_neg (show ¬ nI (sL 3 0).length = 300 from fun h => c2 ((nI_eq (b := 300) (by omega) (by omega)).mp h)), r_R hR2 17 rfl, Option.bind_some, Option.bind_some, Option.bind_some, e3, Option.bind_some, hI18', Option.bind_some, e4, Option.bind_some]
    refine ⟨_, _, _, A, B, sim_mk rfl rfl hC' hR4 ?_ ?_ ?_⟩
    · rw [hz4, hz3, hz2, s1]
    · obtain ⟨⟨a1, a2, a3, a4, a5, a6, a7, a8, a9⟩, b1, b2, b3, b4, b5, b6, b7, b8⟩ := hRS
      refine ⟨⟨a1, a2, a3, a4, a5, a6, ?_, a8, a9⟩, b1, b2, b3, ?_, b5, b6, b7, b8⟩
      · rw [ru_s]
        show nI (sL 3 0).length + 1 = _
        rw [nI_1]
        simp
      · rw [ru_s]
        intro k hk
        simp at hk
        by_cases e : k = (sL 3 0).length
        · subst e
          rw [ru_s]
          simp
        · rw [ru_i _ _ e, List.getElem?_append_left (by omega)]
          exact b4 k (by omega)
    · obtain ⟨d1, d2, d3, d4⟩ := hV
      refine ⟨d1, d2, ?_, d4⟩
      rw [ru_s]
      intro a ha
      rcases List.mem_append.mp ha with h | h
      · exact d3 a h
      · rw [List.mem_singleton.mp h]
        exact hok
