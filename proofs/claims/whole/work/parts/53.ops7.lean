theorem q_nwO {G : Nat → Option gE} {s ci : Nat} {fs : List Value} : g_nwO (G, s) ci fs = some (s, g_nw (G, s) (.inr (ci, fs))) := rfl
theorem q_uu {z : gS} {a : Nat} {x y : gE} : g_up (g_up z a x) a y = g_up z a y := by
  unfold g_up
  refine Prod.ext (funext fun b => ?_) rfl
  by_cases h : b = a <;> simp [h]
theorem q_un0 {z : gS} {x y : gE} : g_up (g_nw z x) z.2 y = g_nw z y := by
  unfold g_up g_nw
  refine Prod.ext (funext fun b => ?_) rfl
  by_cases h : b = z.2 <;> simp [h]
theorem ru_f {α : Type} (f : Nat → Nat → α) {t i t' : Nat} (x : α) (h : t' ≠ t) : ru f t i x t' = f t' := funext fun i' => ru_t f x h
theorem op_secret (n x y : Nat) : OP_secret n x y (Sim x y) := by
  intro G1 G2 sz v0 v1 v2 hS
  obtain ⟨ad, ce, bd, iv, fa, sI, sO, sL, sN, au, rfl, rfl, hC, hR, hRS, hV⟩ := hS
  have hm := c_m hC
  have hnS := hC.nS
  have hRS0 := hRS.code 0
  obtain ⟨h1, h2, h3, h4, h5, h6, h7, h8, h9⟩ := id hC
  obtain ⟨g1, ⟨g, g2, g3⟩, g4⟩ := id h3
  have ha := h1.get (t := 1) (i := 0) (by simp [cnC]) g2
  by_cases c0 : sN 0 0 = 10
  · obtain ⟨z2, e2, hR2, hz2⟩ := r_p0 hR 0
    have i2 : g_fI z2 (bd 0) 9 2 = some (nI (sN 0 0)) := by rw [r_I hR2 2 rfl]; exact congrArg some hRS.1.2.1
    have A : fMain_secret n (ad 0 0) v0 v1 v2 (G1, sz) = some (-1, (G1, sz)) := by
      unfold fMain_secret
      rw [q_fI hm (k := 6) (x := nI (sN 0 0)) rfl, Option.bind_some, q_fR hm (k := 0) (r := some (ad 1 0)) rfl, Option.bind_some, Option.bind_some, q_lenR ha, Option.bind_some, if_neg (fun q => absurd ((nI_ltI (by omega) (by omega)).mp q) (by omega))]
    have B : fRef_secret n (bd 0) v0 v1 v2 (G2, sz) = some (-1, z2) := by
      unfold fRef_secret
      rw [e2, Option.bind_some, i2, Option.bind_some, c0, if_pos (show nI 10 = 10 from rfl)]
    exact ⟨_, _, _, A, B, sim_mk rfl rfl hC hR2 hz2 hRS0 hV⟩
  · -- the class: a new cell
    obtain ⟨N, hN⟩ : ∃ N, N = sN 0 0 := ⟨_, rfl⟩
    have hN10 : N < 10 := by omega
    let cell : gE := .inr (2, [.int v0, .int v1, .int v2, .null, .null, .int 0, .int 0])
    have n1 := h1.new 13 cell
    have ec : cnC sN 13 = N := by simp [cnC, hN]
    rw [ec] at n1
    have n2 := n1.set (t := 1) (i := 0) (by simp [cnC, up1]) (aR "SecretRows$Secret" 10 (va_up g N (some sz)))
    let ad' := ru ad 13 N sz
    let sI' := ru (ru (ru (ru (ru sI 0 N v0) 1 N v1) 2 N v2) 3 N 0) 4 N 0
    let sO' := ru (ru sO 0 N none) 1 N none
    let sN' := ru sN 0 0 (N + 1)
    have n3 := n2.set (t := 0) (i := 0) (by simp [cnC, up1]) (cM ad' sI' sN')
    have adt : ∀ t, t ≠ 13 → ad' t = ad t := fun t ht => ru_f _ _ ht
    have k : ∀ t i, t ≠ 0 → t ≠ 1 → t ≠ 13 → ru (ru (ru ce 13 N cell) 1 0 (aR "SecretRows$Secret" 10 (va_up g N (some sz)))) 0 0 (cM ad' sI' sN') t i = ce t i := fun t i q0 q1 q2 => by rw [ru_t _ _ q0, ru_t _ _ q1, ru_t _ _ q2]
    have sIt : ∀ t i, 5 ≤ t → sI' t i = sI t i := fun t i ht => by
      show ru (ru (ru (ru (ru sI 0 N v0) 1 N v1) 2 N v2) 3 N 0) 4 N 0 t i = _
      rw [ru_t _ _ (by omega), ru_t _ _ (by omega), ru_t _ _ (by omega), ru_t _ _ (by omega), ru_t _ _ (by omega)]
    have sIi : ∀ t i, i ≠ N → sI' t i = sI t i := fun t i hi => by
      show ru (ru (ru (ru (ru sI 0 N v0) 1 N v1) 2 N v2) 3 N 0) 4 N 0 t i = _
      rw [ru_n _ _ (by omega), ru_n _ _ (by omega), ru_n _ _ (by omega), ru_n _ _ (by omega), ru_n _ _ (by omega)]
    have sOt : ∀ t i, 2 ≤ t → sO' t i = sO t i := fun t i ht => by
      show ru (ru sO 0 N none) 1 N none t i = _
      rw [ru_t _ _ (by omega), ru_t _ _ (by omega)]
    have sOi : ∀ t i, i ≠ N → sO' t i = sO t i := fun t i hi => by
      show ru (ru sO 0 N none) 1 N none t i = _
      rw [ru_n _ _ (by omega), ru_n _ _ (by omega)]
    have sN0 : ∀ i, i ≠ 0 → sN' 0 i = sN 0 i := fun i hi => ru_i _ _ hi
    have sNt : ∀ t i, t ≠ 0 → sN' t i = sN t i := fun t i ht => ru_t _ _ ht
    have sNN : sN' 0 0 = N + 1 := ru_s _ _ _ _
    let ce' := ru (ru (ru ce 13 N cell) 1 0 (aR "SecretRows$Secret" 10 (va_up g N (some sz)))) 0 0 (cM ad' sI' sN')
    have hC' : C1 (g_up (g_up (g_nw (G1, sz) cell) (ad' 1 0) (aR "SecretRows$Secret" 10 (va_up g N (some sz)))) (ad' 0 0) (cM ad' sI' sN')) ad' ce' sI' sO' sL sN' au := by
      refine ⟨n3.cn (fun t => ?_), ru_s _ _ _ _, ?_, h4.cg (sN0 3 (by omega)) (fun t v q1 q2 _ => ⟨k _ _ (by omega) (by omega) (by omega), by rw [adt t (by omega)]⟩) (fun _ _ => rfl), h5.cg (sN0 1 (by omega)) (k _ _ (by omega) (by omega) (by omega)) (fun t i q1 q2 _ => ⟨k _ _ (by omega) (by omega) (by omega), by rw [adt t (by omega)]⟩) (fun i q _ _ => by rw [sOt _ _ (by omega), adt 22 (by omega)]) (fun i _ => ⟨sIt 5 i (by omega), sNt 1 i (by omega), sNt 2 i (by omega), rfl, rfl⟩), h6.cg (sN0 2 (by omega)) (k _ _ (by omega) (by omega) (by omega)) (fun i _ => ⟨k _ _ (by omega) (by omega) (by omega), by rw [adt 21 (by omega)]⟩) (fun i _ => ⟨sNt 3 i (by omega), by rw [adt 22 (by omega), sNt 4 i (by omega)], sIt 6 i (by omega)⟩), h7.cg (k _ _ (by omega) (by omega) (by omega)) (k _ _ (by omega) (by omega) (by omega)) (by rw [adt 5 (by omega)]), h8.keep (by rw [adt 7 (by omega)]) (k _ _ (by omega) (by omega) (by omega)) (k _ _ (by omega) (by omega) (by omega)), h9.cg (fun t q1 q2 => ⟨k _ _ (by omega) (by omega) (by omega), by rw [adt t (by omega)]⟩)⟩
      · unfold cnC up1
        by_cases q : t = 13
        · subst q
          simp [sNN]
        · rw [if_neg q]
          simp only [if_neg q, sN0 1 (by omega), sN0 2 (by omega), sN0 3 (by omega)]
      · refine ⟨by rw [sNN]; omega, ⟨va_up g N (some sz), (ru_t _ _ (by omega)).trans (ru_s _ _ _ _), fun i hi => ?_⟩, fun i hi => ?_⟩
        · rw [sNN] at hi
          by_cases q : i = N
          · subst q
            rw [va_up_self]
            exact congrArg some (ru_s ad 13 i sz).symm
          · rw [va_up_ne _ _ q, g3 i (by omega)]
            exact congrArg some (ru_i ad sz q).symm
        · rw [sNN] at hi
          show ru (ru (ru ce 13 N cell) 1 0 _) 0 0 _ 13 i = _
          rw [ru_t _ _ (by omega), ru_t _ _ (by omega)]
          by_cases q : i = N
          · subst q
            rw [ru_s]
            show cell = _
            simp [cell, cS, sI', sO', ru, va_rf]
          · rw [ru_i _ _ q, g4 i (by omega)]
            unfold cS
            rw [sIi 0 i q, sIi 1 i q, sIi 2 i q, sIi 3 i q, sIi 4 i q, sOi 0 i q, sOi 1 i q, adt 22 (by omega)]
    have hm' := c_m hC'
    -- the class's call
    have hlt1 : ad 1 0 < sz := h1.2.1 1 0 (by simp [cnC])
    have hlt0 : ad 0 0 < sz := h1.2.1 0 0 (by simp [cnC])
    have e10 : ad' 1 0 = ad 1 0 := by rw [adt 1 (by omega)]
    have e00 : ad' 0 0 = ad 0 0 := by rw [adt 0 (by omega)]
    have e13 : ad' 13 N = sz := ru_s _ _ _ _
    have hx1 := n1.get (t := 1) (i := 0) (by simp [cnC, up1]) ((ru_t _ _ (by omega)).trans g2)
    have hx3 := n1.get (t := 13) (i := N) (by simp [up1]) (ru_s _ _ _ _)
    have hx0 := n2.get (t := 0) (i := 0) (by simp [cnC, up1]) ((ru_t _ _ (by omega)).trans ((ru_t _ _ (by omega)).trans h2))
    change (g_nw (G1, sz) cell).1 (ad' 1 0) = _ at hx1
    change (g_nw (G1, sz) cell).1 (ad' 13 N) = _ at hx3
    rw [e13] at hx3
    rw [e10] at hx1
    change (g_up (g_nw (G1, sz) cell) (ad' 1 0) (aR "SecretRows$Secret" 10 (va_up g N (some sz)))).1 (ad' 0 0) = _ at hx0
    rw [e10, e00] at hx0
    rw [e00] at hm'
    rw [e10] at hm'
    have hinit : fSecret_init n sz v0 v1 v2 (g_nw (G1, sz) (.inr (2, [.int 0, .int 0, .int 0, .null, .null, .int 0, .int 0]))) = some (g_nw (G1, sz) cell) := by
      unfold fSecret_init
      have w0 : (g_nw (G1, sz) (.inr (2, [.int 0, .int 0, .int 0, .null, .null, .int 0, .int 0]))).1 sz = _ := q_nw (z := (G1, sz))
      rw [q_pF w0 (Nat.le_of_ble_eq_true rfl), Option.bind_some, q_pF q_up (Nat.le_of_ble_eq_true rfl), Option.bind_some, q_uu, q_pF q_up (Nat.le_of_ble_eq_true rfl), Option.bind_some, q_uu]
      exact congrArg some (q_un0 (z := (G1, sz)))
    have em : cM ad' sI' sN' = .inr (8, List.set [.ref (ad 1 0), .ref (ad 2 0), .ref (ad 3 0), .ref (ad 4 0), .ref (ad 6 0), .ref (ad 8 0), .int (nI (sN 0 0)), .int (nI (sN 0 1)), .int (nI (sN 0 2)), .int (nI (sN 0 3)), .int (sI 7 0), .int (sI 8 0), .int (sI 8 1), .int (sI 8 2)] 6 (.int (nI (N + 1)))) := by
      unfold cM
      rw [adt 1 (by omega), adt 2 (by omega), adt 3 (by omega), adt 4 (by omega), adt 6 (by omega), adt 8 (by omega), sNN, sN0 1 (by omega), sN0 2 (by omega), sN0 3 (by omega), sIt 7 0 (by omega), sIt 8 0 (by omega), sIt 8 1 (by omega), sIt 8 2 (by omega)]
      rfl
    have A : fMain_secret n (ad 0 0) v0 v1 v2 (G1, sz) = some (nI N, g_up (g_up (g_nw (G1, sz) cell) (ad 1 0) (aR "SecretRows$Secret" 10 (va_up g N (some sz)))) (ad 0 0) (cM ad' sI' sN')) := by
      unfold fMain_secret
      rw [q_fI hm (k := 6) (x := nI (sN 0 0)) rfl, Option.bind_some, q_fR hm (k := 0) (r := some (ad 1 0)) rfl, Option.bind_some, Option.bind_some, q_lenR ha, Option.bind_some, if_pos ((nI_ltI (by omega) (by omega)).mpr (by omega)), Option.bind_some, Option.bind_some, q_bp q_nwO, hinit, Option.bind_some, Option.bind_some, q_is hx3, Option.bind_some, ← hN, q_stR hx1 hN10 (by omega), Option.bind_some]
      change (g_fI (g_up (g_nw (G1, sz) cell) (ad 1 0) (aR "SecretRows$Secret" 10 (va_up g N (some sz)))) (ad 0 0) 8 6).bind (fun v_13 => (g_pF (g_up (g_nw (G1, sz) cell) (ad 1 0) (aR "SecretRows$Secret" 10 (va_up g N (some sz)))) (ad 0 0) 8 6 (.int (v_13 + 1))).bind _) = _
      rw [q_fI hx0 (k := 6) (x := nI (sN 0 0)) rfl, Option.bind_some, q_pF hx0 (Nat.le_of_ble_eq_true rfl), Option.bind_some, ← hN, nI_1]
      have em2 := em
      rw [← hN] at em2
      rw [← em2, q_fI hm' (k := 6) (x := nI (sN' 0 0)) rfl, Option.bind_some, sNN, nI_pred]
    -- the reference's call
    have hRz : R2 (G2, sz + 1) bd iv fa := R2.sz hR (by omega)
    obtain ⟨z2, e2, hR2, hz2⟩ := r_p0 hRz 0
    obtain ⟨z3, e3, hR3, hz3⟩ := r_st hR2 (k := 10) (ty := .int) (by unfold aK; omega) rfl (j := N) (by show N < 10; omega) v0
    obtain ⟨z4, e4, hR4, hz4⟩ := r_st hR3 (k := 11) (ty := .int) (by unfold aK; omega) rfl (j := N) (by show N < 10; omega) v1
    obtain ⟨z5, e5, hR5, hz5⟩ := r_st hR4 (k := 12) (ty := .int) (by unfold aK; omega) rfl (j := N) (by show N < 10; omega) v2
    obtain ⟨z6, e6, hR6, hz6⟩ := r_st hR5 (k := 13) (ty := .int) (by unfold aK; omega) rfl (j := N) (by show N < 10; omega) (-1)
    obtain ⟨z7, e7, hR7, hz7⟩ := r_st hR6 (k := 14) (ty := .int) (by unfold aK; omega) rfl (j := N) (by show N < 10; omega) (-1)
    obtain ⟨z8, e8, hR8, hz8⟩ := r_p2 hR7 (nI (N + 1))
    have i2 : up1 iv 0 0 2 = nI N := by rw [hN]; exact hRS.1.2.1
    have B : fRef_secret n (bd 0) v0 v1 v2 (G2, sz + 1) = some (nI N, z8) := by
      unfold fRef_secret
      rw [e2, Option.bind_some, r_I hR2 2 rfl, i2, Option.bind_some, if_neg (show ¬ nI N = 10 from fun q => absurd ((nI_eq (b := 10) (by omega) (by omega)).mp q) (by omega)), r_R hR2 10 rfl, Option.bind_some, Option.bind_some, Option.bind_some, e3, Option.bind_some, r_R hR3 11 rfl, Option.bind_some, r_I hR3 2 rfl, i2, Option.bind_some, Option.bind_some, e4, Option.bind_some, r_R hR4 12 rfl, Option.bind_some, r_I hR4 2 rfl, i2, Option.bind_some, Option.bind_some, e5, Option.bind_some, r_R hR5 13 rfl, Option.bind_some, r_I hR5 2 rfl, i2, Option.bind_some, Option.bind_some, e6, Option.bind_some, r_R hR6 14 rfl, Option.bind_some, r_I hR6 2 rfl, i2, Option.bind_some, Option.bind_some, e7, Option.bind_some, r_I hR7 2 rfl, i2, Option.bind_some, nI_1, e8, Option.bind_some, r_I hR8 2 rfl, Option.bind_some]
      show some (nI (N + 1) - 1, z8) = _
      rw [nI_pred]
    have hC2 : C1 (g_up (g_up (g_nw (G1, sz) cell) (ad 1 0) (aR "SecretRows$Secret" 10 (va_up g N (some sz)))) (ad 0 0) (cM ad' sI' sN')) ad' ce' sI' sO' sL sN' au := by
      have := hC'
      rw [e10, e00] at this
      exact this
    refine ⟨_, _, _, A, B, sim_mk e00.symm rfl hC2 hR8 ?_ ?_ ?_⟩
    · rw [hz8, hz7, hz6, hz5, hz4, hz3, hz2]
      rfl
    · obtain ⟨⟨a1, a2, a3, a4, a5, a6, a7, a8, a9⟩, b1, b2, b3, b4, b5, b6, b7, b8⟩ := hRS
      refine ⟨⟨a1.trans (sIt 7 0 (by omega)).symm, ?_, ?_, ?_, ?_, a6, a7, a8.trans (sIt 8 0 (by omega)).symm, ?_⟩, ?_, ?_, ?_, b4, ?_, ?_, b7, ?_⟩
      · rw [sNN]; rfl
      · rw [sN0 3 (by omega)]; exact a3
      · rw [sN0 1 (by omega)]; exact a4
      · rw [sN0 2 (by omega)]; exact a5
      · rw [sIt 8 0 (by omega), sIt 8 1 (by omega), sIt 8 2 (by omega)]; exact a9
      · rw [sN0 3 (by omega)]
        intro v hv
        rw [sNt 5 v (by omega)]
        exact b1 v hv
      · rw [sNN]
        intro s hs
        by_cases q : s = N
        · subst q
          obtain ⟨p1, p2⟩ := b3 s (by omega) (by omega)
          refine ⟨?_, ?_, ?_, ?_, ?_, ?_, ?_⟩
          · simp [ru, sI']
          · simp [ru, sI']
          · simp [ru, sI']
          · simp [ru, sO', oI]
          · simp [ru, sO', oI]
          · simp [ru, sI']; exact p1
          · simp [ru, sI']; exact p2
        · obtain ⟨p1, p2, p3, p4, p5, p6, p7⟩ := b2 s (by omega)
          rw [sIi 0 s q, sIi 1 s q, sIi 2 s q, sIi 3 s q, sIi 4 s q, sOi 0 s q, sOi 1 s q]
          refine ⟨?_, ?_, ?_, ?_, ?_, ?_, ?_⟩
          · simp [ru, q]; exact p1
          · simp [ru, q]; exact p2
          · simp [ru, q]; exact p3
          · simp [ru, q]; exact p4
          · simp [ru, q]; exact p5
          · simp [ru]; exact p6
          · simp [ru]; exact p7
      · rw [sNN]
        intro s q1 q2
        obtain ⟨p1, p2⟩ := b3 s (by omega) q2
        exact ⟨by simp [ru]; exact p1, by simp [ru]; exact p2⟩
      · rw [sN0 1 (by omega)]
        intro i hi
        rw [sNt 1 i (by omega), sNt 2 i (by omega), sIt 5 i (by omega)]
        obtain ⟨p1, p2⟩ := b5 i hi
        exact ⟨fun s hs => by rw [sOt _ _ (by omega)]; exact p1 s hs, p2⟩
      · rw [sN0 1 (by omega)]
        exact b6
      · rw [sN0 2 (by omega)]
        intro j hj
        rw [sNt 3 j (by omega), sNt 4 j (by omega), sIt 6 j (by omega)]
        exact b8 j hj
    · obtain ⟨d1, d2, d3, d4, d5, d6, d7⟩ := hV
      refine ⟨by rw [sIt 7 0 (by omega)]; exact d1, by rw [sIt 8 0 (by omega), sIt 8 1 (by omega), sIt 8 2 (by omega)]; exact d2, d3, ?_, ?_, ?_, ?_⟩
      · rw [sN0 3 (by omega)]
        intro v hv
        rw [sNt 5 v (by omega), sNN]
        obtain ⟨p1, p2, p3, p4⟩ := d4 v hv
        exact ⟨p1, p2, p3, by omega⟩
      · rw [sNN]
        intro s hs
        by_cases q : s = N
        · subst q
          refine ⟨Or.inl (by simp [ru, sI']), fun v hv => ?_, fun v hv => ?_, ⟨0, by omega, by simp [ru, sI']; rfl⟩⟩
          · simp [ru, sO'] at hv
          · simp [ru, sO'] at hv
        · rw [sIi 4 s q, sIi 3 s q, sOi 0 s q, sOi 1 s q]
          obtain ⟨p1, p2, p3, p4⟩ := d5 s (by omega)
          refine ⟨p1, fun v hv => ?_, fun v hv => ?_, p4⟩
          · rw [sN0 3 (by omega), sNt 5 v (by omega)]; exact p2 v hv
          · rw [sN0 3 (by omega), sNt 5 v (by omega)]; exact p3 v hv
      · rw [sN0 1 (by omega)]
        intro i hi
        rw [sIt 5 i (by omega), sNt 1 i (by omega), sNt 2 i (by omega)]
        obtain ⟨p1, p2, p3⟩ := d6 i hi
        refine ⟨p1, fun s v q1 q2 => ?_, p3⟩
        rw [sOt _ _ (by omega)] at q2
        rw [sNN, sN0 3 (by omega)]
        obtain ⟨w1, w2⟩ := p2 s v q1 q2
        exact ⟨by omega, w2⟩
      · rw [sN0 2 (by omega)]
        intro j hj
        rw [sNt 3 j (by omega), sNt 4 j (by omega), sIt 6 j (by omega), sNN, sN0 3 (by omega)]
        obtain ⟨w1, w2, w3⟩ := d7 j hj
        exact ⟨by omega, w2, w3⟩
