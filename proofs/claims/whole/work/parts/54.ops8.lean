theorem op_token (n x y : Nat) : OP_token n x y (Sim x y) := by
  intro G1 G2 sz v0 v1 v2 hS
  obtain ⟨ad, ce, bd, iv, fa, sI, sO, sL, sN, au, rfl, rfl, hC, hR, hRS, hV⟩ := hS
  have hm := c_m hC
  have hnK := hC.nK
  have hnV := hC.nV
  have hRS0 := hRS.code 0
  obtain ⟨z2, e2, hR2, hz2⟩ := r_p0 hR 0
  obtain ⟨h1, h2, h3, h4, h5, h6, h7, h8, h9⟩ := id hC
  obtain ⟨g1, ⟨g, g2, g3⟩, g4⟩ := id h6
  have ha := h1.get (t := 3) (i := 0) (by simp [cnC]) g2
  rcases kept_cases hC hR2 hRS0 hV n v0 v1 with ⟨i, s, v, hi, hs, hv, rfl, rfl, -, k1, k2⟩ | ⟨k1, k2⟩
  · have hne : ¬ nI v = -1 := fun q => absurd (show nI v < 0 by rw [q]; decide) (nI_pos (by omega))
    have i5 : g_fI z2 (bd 0) 9 5 = some (nI (sN 0 2)) := by rw [r_I hR2 5 rfl]; exact congrArg some hRS.1.2.2.2.2.1
    by_cases c1 : v2 < 1
    · have A : fMain_token n (ad 0 0) (nI i) (nI s) v2 (G1, sz) = some (-1, (G1, sz)) := by
        unfold fMain_token
        rw [q_is hm, Option.bind_some, q_bp k1]
        show (if v2 < 1 then _ else _) = _
        rw [if_pos c1]
      have B : fRef_token n (bd 0) (nI i) (nI s) v2 (G2, sz) = some (-1, z2) := by
        unfold fRef_token
        rw [e2, Option.bind_some, r_is hR2, Option.bind_some, q_bp k2, if_neg hne, i5, Option.bind_some]
        by_cases c2 : nI (sN 0 2) = 20
        · rw [if_pos c2]
        · rw [if_neg c2, if_pos c1]
      exact ⟨_, _, _, A, B, sim_mk rfl rfl hC hR2 hz2 hRS0 hV⟩
    by_cases c3 : 100000 < v2
    · have A : fMain_token n (ad 0 0) (nI i) (nI s) v2 (G1, sz) = some (-1, (G1, sz)) := by
        unfold fMain_token
        rw [q_is hm, Option.bind_some, q_bp k1]
        show (if v2 < 1 then _ else _) = _
        rw [if_neg c1, if_pos c3]
      have B : fRef_token n (bd 0) (nI i) (nI s) v2 (G2, sz) = some (-1, z2) := by
        unfold fRef_token
        rw [e2, Option.bind_some, r_is hR2, Option.bind_some, q_bp k2, if_neg hne, i5, Option.bind_some]
        by_cases c2 : nI (sN 0 2) = 20
        · rw [if_pos c2]
        · rw [if_neg c2, if_neg c1, if_neg (Int32.not_le.mpr c3)]
      exact ⟨_, _, _, A, B, sim_mk rfl rfl hC hR2 hz2 hRS0 hV⟩
    obtain ⟨t, ht, rfl⟩ := nI_of2 (M := 100000) (n := 100000) (by decide) (x := v2) (fun q => c1 (Int32.lt_trans q (by decide))) (Int32.not_lt.mp c3)
    by_cases c0 : sN 0 2 = 20
    · have A : fMain_token n (ad 0 0) (nI i) (nI s) (nI t) (G1, sz) = some (-1, (G1, sz)) := by
        unfold fMain_token
        rw [q_is hm, Option.bind_some, q_bp k1]
        show (if nI t < 1 then _ else _) = _
        rw [if_neg c1, if_neg c3, q_fI hm (k := 8) (x := nI (sN 0 2)) rfl, Option.bind_some, q_fR hm (k := 2) (r := some (ad 3 0)) rfl, Option.bind_some, Option.bind_some, q_lenR ha, Option.bind_some, if_neg (fun q => absurd ((nI_ltI (by omega) (by omega)).mp q) (by omega))]
      have B : fRef_token n (bd 0) (nI i) (nI s) (nI t) (G2, sz) = some (-1, z2) := by
        unfold fRef_token
        rw [e2, Option.bind_some, r_is hR2, Option.bind_some, q_bp k2, if_neg hne, i5, Option.bind_some, c0, if_pos (show nI 20 = 20 from rfl)]
      exact ⟨_, _, _, A, B, sim_mk rfl rfl hC hR2 hz2 hRS0 hV⟩
    · obtain ⟨⟨c, hc, hcl⟩, -⟩ := id hV
      obtain ⟨N, hN⟩ : ∃ N, N = sN 0 2 := ⟨_, rfl⟩
      have hN20 : N < 20 := by omega
      let cell : gE := .inr (5, [.int (nI s), .ref (ad 22 v), .int (nI (c + t))])
      have n1 := h1.new 21 cell
      have ec : cnC sN 21 = N := by simp [cnC, hN]
      rw [ec] at n1
      have n2 := n1.set (t := 3) (i := 0) (by simp [cnC, up1]) (aR "SecretRows$Token" 20 (va_up g N (some sz)))
      let ad' := ru ad 21 N sz
      let sI' := ru sI 6 N (nI (c + t))
      let sN' := ru (ru (ru sN 0 2 (N + 1)) 3 N s) 4 N v
      have n3 := n2.set (t := 0) (i := 0) (by simp [cnC, up1]) (cM ad' sI' sN')
      have adt : ∀ t, t ≠ 21 → ad' t = ad t := fun t ht => ru_f _ _ ht
      have k : ∀ t i, t ≠ 0 → t ≠ 3 → t ≠ 21 → ru (ru (ru ce 21 N cell) 3 0 (aR "SecretRows$Token" 20 (va_up g N (some sz)))) 0 0 (cM ad' sI' sN') t i = ce t i := fun t i q0 q1 q2 => by rw [ru_t _ _ q0, ru_t _ _ q1, ru_t _ _ q2]
      have sIt : ∀ t i, t ≠ 6 → sI' t i = sI t i := fun t i ht => ru_t _ _ ht
      have sN0 : ∀ i, i ≠ 2 → sN' 0 i = sN 0 i := fun i hi => by
        show ru (ru (ru sN 0 2 (N + 1)) 3 N s) 4 N v 0 i = _
        rw [ru_t _ _ (by omega), ru_t _ _ (by omega), ru_i _ _ hi]
      have sNt : ∀ t i, t ≠ 0 → t ≠ 3 → t ≠ 4 → sN' t i = sN t i := fun t i q1 q2 q3 => by
        show ru (ru (ru sN 0 2 (N + 1)) 3 N s) 4 N v t i = _
        rw [ru_t _ _ q3, ru_t _ _ q2, ru_t _ _ q1]
      have sN3 : ∀ t i, t ≠ 0 → i ≠ N → sN' t i = sN t i := fun t i q1 q2 => by
        show ru (ru (ru sN 0 2 (N + 1)) 3 N s) 4 N v t i = _
        rw [ru_n _ _ (by omega), ru_n _ _ (by omega), ru_t _ _ q1]
      have sNN : sN' 0 2 = N + 1 := by
        show ru (ru (ru sN 0 2 (N + 1)) 3 N s) 4 N v 0 2 = _
        rw [ru_t _ _ (by omega), ru_t _ _ (by omega), ru_s]
      have s3N : sN' 3 N = s := by
        show ru (ru (ru sN 0 2 (N + 1)) 3 N s) 4 N v 3 N = _
        rw [ru_t _ _ (by omega), ru_s]
      have s4N : sN' 4 N = v := ru_s _ _ _ _
      have s6N : sI' 6 N = nI (c + t) := ru_s _ _ _ _
      let ce' := ru (ru (ru ce 21 N cell) 3 0 (aR "SecretRows$Token" 20 (va_up g N (some sz)))) 0 0 (cM ad' sI' sN')
      have hC' : C1 (g_up (g_up (g_nw (G1, sz) cell) (ad' 3 0) (aR "SecretRows$Token" 20 (va_up g N (some sz)))) (ad' 0 0) (cM ad' sI' sN')) ad' ce' sI' sO sL sN' au := by
        refine ⟨n3.cn (fun t => ?_), ru_s _ _ _ _, h3.cg (sN0 0 (by omega)) (k _ _ (by omega) (by omega) (by omega)) (fun i _ => k _ _ (by omega) (by omega) (by omega)) (fun i _ => by rw [adt 13 (by omega)]) (fun i _ => ?_), h4.cg (sN0 3 (by omega)) (fun t v q1 q2 _ => ⟨k _ _ (by omega) (by omega) (by omega), by rw [adt t (by omega)]⟩) (fun _ _ => rfl), h5.cg (sN0 1 (by omega)) (k _ _ (by omega) (by omega) (by omega)) (fun t i q1 q2 _ => ⟨k _ _ (by omega) (by omega) (by omega), by rw [adt t (by omega)]⟩) (fun i q _ _ => by rw [adt 22 (by omega)]) (fun i _ => ⟨sIt 5 i (by omega), sNt 1 i (by omega) (by omega) (by omega), sNt 2 i (by omega) (by omega) (by omega), rfl, rfl⟩), ?_, h7.cg (k _ _ (by omega) (by omega) (by omega)) (k _ _ (by omega) (by omega) (by omega)) (by rw [adt 5 (by omega)]), h8.keep (by rw [adt 7 (by omega)]) (k _ _ (by omega) (by omega) (by omega)) (k _ _ (by omega) (by omega) (by omega)), h9.cg (fun t q1 q2 => ⟨k _ _ (by omega) (by omega) (by omega), by rw [adt t (by omega)]⟩)⟩
        · unfold cnC up1
          by_cases q : t = 21
          · subst q
            simp [sNN]
          · rw [if_neg q]
            simp only [if_neg q, sN0 0 (by omega), sN0 1 (by omega), sN0 3 (by omega)]
        · unfold cS
          rw [sIt 0 i (by omega), sIt 1 i (by omega), sIt 2 i (by omega), sIt 3 i (by omega), sIt 4 i (by omega), adt 22 (by omega)]
        · refine ⟨by rw [sNN]; omega, ⟨va_up g N (some sz), (ru_t _ _ (by omega)).trans (ru_s _ _ _ _), fun i hi => ?_⟩, fun i hi => ?_⟩
          · rw [sNN] at hi
            by_cases q : i = N
            · subst q
              rw [va_up_self]
              exact congrArg some (ru_s ad 21 i sz).symm
            · rw [va_up_ne _ _ q, g3 i (by omega)]
              exact congrArg some (ru_i ad sz q).symm
          · rw [sNN] at hi
            show ru (ru (ru ce 21 N cell) 3 0 _) 0 0 _ 21 i = _
            rw [ru_t _ _ (by omega), ru_t _ _ (by omega)]
            by_cases q : i = N
            · subst q
              rw [ru_s, s3N, s4N, s6N, adt 22 (by omega)]
            · rw [ru_i _ _ q, g4 i (by omega), sN3 3 i (by omega) q, sN3 4 i (by omega) q, adt 22 (by omega)]
              have s6i : sI' 6 i = sI 6 i := ru_i _ _ q
              rw [s6i]
      have hm' := c_m hC'
      have e10 : ad' 3 0 = ad 3 0 := by rw [adt 3 (by omega)]
      have e00 : ad' 0 0 = ad 0 0 := by rw [adt 0 (by omega)]
      have e13 : ad' 21 N = sz := ru_s _ _ _ _
      have hx1 := n1.get (t := 3) (i := 0) (by simp [cnC, up1]) ((ru_t _ _ (by omega)).trans g2)
      have hx3 := n1.get (t := 21) (i := N) (by simp [up1]) (ru_s _ _ _ _)
      have hx0 := n2.get (t := 0) (i := 0) (by simp [cnC, up1]) ((ru_t _ _ (by omega)).trans ((ru_t _ _ (by omega)).trans h2))
      change (g_nw (G1, sz) cell).1 (ad' 3 0) = _ at hx1
      change (g_nw (G1, sz) cell).1 (ad' 21 N) = _ at hx3
      rw [e13] at hx3
      rw [e10] at hx1
      change (g_up (g_nw (G1, sz) cell) (ad' 3 0) (aR "SecretRows$Token" 20 (va_up g N (some sz)))).1 (ad' 0 0) = _ at hx0
      rw [e10, e00] at hx0
      rw [e00] at hm'
      rw [e10] at hm'
      have hlt0 : ad 0 0 < sz := h1.2.1 0 0 (by simp [cnC])
      have hmn : (g_nw (G1, sz) (.inr (5, [.int 0, .null, .int 0]))).1 (ad 0 0) = some (cM ad sI sN) := by rw [q_nn hlt0]; exact hm
      have hinit : fToken_init n sz (nI s) (ad 22 v) (nI (c + t)) (g_nw (G1, sz) (.inr (5, [.int 0, .null, .int 0]))) = some (g_nw (G1, sz) cell) := by
        unfold fToken_init
        have w0 : (g_nw (G1, sz) (.inr (5, [.int 0, .null, .int 0]))).1 sz = _ := q_nw (z := (G1, sz))
        rw [q_pF w0 (Nat.le_of_ble_eq_true rfl), Option.bind_some, q_pF q_up (Nat.le_of_ble_eq_true rfl), Option.bind_some, q_uu, q_pF q_up (Nat.le_of_ble_eq_true rfl), Option.bind_some, q_uu]
        exact congrArg some (q_un0 (z := (G1, sz)))
      have em : cM ad' sI' sN' = .inr (8, List.set [.ref (ad 1 0), .ref (ad 2 0), .ref (ad 3 0), .ref (ad 4 0), .ref (ad 6 0), .ref (ad 8 0), .int (nI (sN 0 0)), .int (nI (sN 0 1)), .int (nI (sN 0 2)), .int (nI (sN 0 3)), .int (sI 7 0), .int (sI 8 0), .int (sI 8 1), .int (sI 8 2)] 8 (.int (nI (N + 1)))) := by
        unfold cM
        rw [adt 1 (by omega), adt 2 (by omega), adt 3 (by omega), adt 4 (by omega), adt 6 (by omega), adt 8 (by omega), sNN, sN0 0 (by omega), sN0 1 (by omega), sN0 3 (by omega), sIt 7 0 (by omega), sIt 8 0 (by omega), sIt 8 1 (by omega), sIt 8 2 (by omega)]
        rfl
      have A : fMain_token n (ad 0 0) (nI i) (nI s) (nI t) (G1, sz) = some (nI N, g_up (g_up (g_nw (G1, sz) cell) (ad 3 0) (aR "SecretRows$Token" 20 (va_up g N (some sz)))) (ad 0 0) (cM ad' sI' sN')) := by
        unfold fMain_token
        rw [q_is hm, Option.bind_some, q_bp k1]
        show (if nI t < 1 then _ else _) = _
        rw [if_neg c1, if_neg c3, q_fI hm (k := 8) (x := nI (sN 0 2)) rfl, Option.bind_some, q_fR hm (k := 2) (r := some (ad 3 0)) rfl, Option.bind_some, Option.bind_some, q_lenR ha, Option.bind_some, if_pos ((nI_ltI (by omega) (by omega)).mpr (by omega)), Option.bind_some, Option.bind_some, q_bp q_nwO, q_fI hmn (k := 10) (x := sI 7 0) rfl, Option.bind_some, hcl, nI_add, hinit, Option.bind_some, Option.bind_some, q_is hx3, Option.bind_some, ← hN, q_stR hx1 hN20 (by omega), Option.bind_some]
        change (g_fI (g_up (g_nw (G1, sz) cell) (ad 3 0) (aR "SecretRows$Token" 20 (va_up g N (some sz)))) (ad 0 0) 8 8).bind (fun v_13 => (g_pF (g_up (g_nw (G1, sz) cell) (ad 3 0) (aR "SecretRows$Token" 20 (va_up g N (some sz)))) (ad 0 0) 8 8 (.int (v_13 + 1))).bind _) = _
        rw [q_fI hx0 (k := 8) (x := nI (sN 0 2)) rfl, Option.bind_some, q_pF hx0 (Nat.le_of_ble_eq_true rfl), Option.bind_some, ← hN, nI_1]
        have em2 := em
        rw [← hN] at em2
        rw [← em2, q_fI hm' (k := 8) (x := nI (sN' 0 2)) rfl, Option.bind_some, sNN, nI_pred]
      have hRz : R2 (G2, sz + 1) bd iv fa := R2.sz hR (by omega)
      obtain ⟨z2, e2, hR2, hz2⟩ := r_p0 hRz 0
      obtain ⟨z3, e3, hR3, hz3⟩ := r_st hR2 (k := 30) (ty := .int) (by unfold aK; omega) rfl (j := N) (by show N < 20; omega) (nI s)
      obtain ⟨z4, e4, hR4, hz4⟩ := r_st hR3 (k := 31) (ty := .int) (by unfold aK; omega) rfl (j := N) (by show N < 20; omega) (nI v)
      obtain ⟨z5, e5, hR5, hz5⟩ := r_st hR4 (k := 32) (ty := .int) (by unfold aK; omega) rfl (j := N) (by show N < 20; omega) (nI (c + t))
      obtain ⟨z6, e6, hR6, hz6⟩ := r_p5 hR5 (nI (N + 1))
      have i5 : up1 iv 0 0 5 = nI N := by rw [hN]; exact hRS.1.2.2.2.2.1
      have i1 : up1 iv 0 0 1 = nI c := hRS.1.1.trans hcl
      have kk : ∀ (z9 : gS) (fa9 : Nat → Nat → Int32), R2 z9 bd (up1 iv 0 0) fa9 → fa9 19 = fa 19 → fRef_keptOf n (bd 0) (nI i) (nI s) z9 = some (nI v, z9) := by
        intro z9 fa9 h9 q9
        have hnT := hC.nT
        have hnS := hC.nS
        unfold fRef_keptOf at k2 ⊢
        rw [r_is h9, Option.bind_some, q_bp (it_1 (sN := sN) h9 hRS.1.2.2.2.1 n hi hnT), if_neg (by decide), r_is h9, Option.bind_some, q_bp (is_1 (sN := sN) h9 hRS.1.2.1 n hs hnS), if_neg (by decide), r_R h9 19 rfl, Option.bind_some, Option.bind_some]
        have e5 : (10 : Int32) * nI i + nI s = nI (10 * i + s) := by
          rw [show (10 : Int32) = nI 10 from rfl, pk_mul, nI_add]
        obtain ⟨zq, eq, hRq, hzq⟩ := r_p0 hR 0
        rw [e5, r_ld h9 (k := 19) (ty := .int) (by unfold aK; omega) rfl (by show 10 * i + s < 120; omega), Option.bind_some, q9]
        obtain ⟨-, -, -, -, -, b5, -⟩ := id hRS
        rw [(b5 i hi).1 s (by omega)]
        rcases kept_cases hC hRq hRS0 hV n (nI i) (nI s) with ⟨i', s', v', hi', hs', hv', qi, qs, ev, q1, q2⟩ | ⟨q1, q2⟩
        · have ei : i = i' := (nI_eq (by omega) (by omega)).mp qi
          have es : s = s' := (nI_eq (by omega) (by omega)).mp qs
          subst ei
          subst es
          rw [k1] at q1
          have : some (ad 22 v) = some (ad 22 v') := congrArg Prod.fst (Option.some.inj q1)
          have hh := h1.2.2 22 v 22 v' (by simp [cnC]; exact hv) (by simp [cnC]; exact hv') (Option.some.inj this)
          rw [ev, hh.2]
          rfl
        · rw [k1] at q1
          have : some (ad 22 v) = none := congrArg Prod.fst (Option.some.inj q1)
          cases this
      have B : fRef_token n (bd 0) (nI i) (nI s) (nI t) (G2, sz + 1) = some (nI N, z6) := by
        unfold fRef_token
        rw [e2, Option.bind_some, r_is hR2, Option.bind_some, q_bp (kk z2 _ hR2 rfl), if_neg hne, r_I hR2 5 rfl, i5, Option.bind_some, if_neg (show ¬ nI N = 20 from fun q => absurd ((nI_eq (b := 20) (by omega) (by omega)).mp q) (by omega)), if_neg c1, if_pos (Int32.not_lt.mp c3), r_R hR2 30 rfl, Option.bind_some, Option.bind_some, Option.bind_some, e3, Option.bind_some, r_R hR3 31 rfl, Option.bind_some, r_I hR3 5 rfl, i5, Option.bind_some, r_is hR3, Option.bind_some, q_bp (kk z3 _ hR3 rfl), Option.bind_some, e4, Option.bind_some, r_R hR4 32 rfl, Option.bind_some, r_I hR4 5 rfl, i5, Option.bind_some, r_I hR4 1 rfl, i1, Option.bind_some, Option.bind_some, nI_add, e5, Option.bind_some, r_I hR5 5 rfl, i5, Option.bind_some, nI_1, e6, Option.bind_some, r_I hR6 5 rfl, Option.bind_some]
        show some (nI (N + 1) - 1, z6) = _
        rw [nI_pred]
      have hC2 : C1 (g_up (g_up (g_nw (G1, sz) cell) (ad 3 0) (aR "SecretRows$Token" 20 (va_up g N (some sz)))) (ad 0 0) (cM ad' sI' sN')) ad' ce' sI' sO sL sN' au := by
        have := hC'
        rw [e10, e00] at this
        exact this
      refine ⟨_, _, _, A, B, sim_mk e00.symm rfl hC2 hR6 ?_ ?_ ?_⟩
      · rw [hz6, hz5, hz4, hz3, hz2]
        rfl
      · obtain ⟨⟨a1, a2, a3, a4, a5, a6, a7, a8, a9⟩, b1, b2, b3, b4, b5, b6, b7, b8⟩ := hRS
        refine ⟨⟨a1.trans (sIt 7 0 (by omega)).symm, ?_, ?_, ?_, ?_, a6, a7, a8.trans (sIt 8 0 (by omega)).symm, ?_⟩, ?_, ?_, ?_, b4, ?_, ?_, b7, ?_⟩
        · rw [sN0 0 (by omega)]; exact a2
        · rw [sN0 3 (by omega)]; exact a3
        · rw [sN0 1 (by omega)]; exact a4
        · rw [sNN]; rfl
        · rw [sIt 8 0 (by omega), sIt 8 1 (by omega), sIt 8 2 (by omega)]; exact a9
        · rw [sN0 3 (by omega)]
          intro v hv
          rw [sNt 5 v (by omega) (by omega) (by omega)]
          exact b1 v hv
        · rw [sN0 0 (by omega)]
          intro q hq
          rw [sIt 0 q (by omega), sIt 1 q (by omega), sIt 2 q (by omega), sIt 3 q (by omega), sIt 4 q (by omega)]
          exact b2 q hq
        · rw [sN0 0 (by omega)]
          exact b3
        · rw [sN0 1 (by omega)]
          intro q hq
          rw [sNt 1 q (by omega) (by omega) (by omega), sNt 2 q (by omega) (by omega) (by omega), sIt 5 q (by omega)]
          exact b5 q hq
        · rw [sN0 1 (by omega)]
          exact b6
        · rw [sNN]
          intro q hq
          by_cases e : q = N
          · subst e
            rw [s3N, s4N, s6N]
            exact ⟨by simp [ru], by simp [ru], by simp [ru]⟩
          · rw [sN3 3 q (by omega) e, sN3 4 q (by omega) e, show sI' 6 q = sI 6 q from ru_i _ _ e]
            obtain ⟨p1, p2, p3⟩ := b8 q (by omega)
            exact ⟨by simp [ru, e]; exact p1, by simp [ru, e]; exact p2, by simp [ru, e]; exact p3⟩
      · obtain ⟨d1, d2, d3, d4, d5, d6, d7⟩ := hV
        refine ⟨by rw [sIt 7 0 (by omega)]; exact d1, by rw [sIt 8 0 (by omega), sIt 8 1 (by omega), sIt 8 2 (by omega)]; exact d2, d3, ?_, ?_, ?_, ?_⟩
        · rw [sN0 3 (by omega)]
          intro v hv
          rw [sNt 5 v (by omega) (by omega) (by omega), sN0 0 (by omega)]
          exact d4 v hv
        · rw [sN0 0 (by omega)]
          intro q hq
          rw [sIt 3 q (by omega), sIt 4 q (by omega)]
          obtain ⟨p1, p2, p3, p4⟩ := d5 q hq
          refine ⟨p1, fun v hv => ?_, fun v hv => ?_, p4⟩
          · rw [sN0 3 (by omega), sNt 5 v (by omega) (by omega) (by omega)]; exact p2 v hv
          · rw [sN0 3 (by omega), sNt 5 v (by omega) (by omega) (by omega)]; exact p3 v hv
        · rw [sN0 1 (by omega)]
          intro q hq
          rw [sIt 5 q (by omega), sNt 1 q (by omega) (by omega) (by omega), sNt 2 q (by omega) (by omega) (by omega)]
          obtain ⟨p1, p2, p3⟩ := d6 q hq
          refine ⟨p1, fun s v q1 q2 => ?_, p3⟩
          rw [sN0 0 (by omega), sN0 3 (by omega)]
          exact p2 s v q1 q2
        · rw [sNN]
          intro q hq
          rw [sN0 0 (by omega), sN0 3 (by omega)]
          by_cases e : q = N
          · subst e
            rw [s3N, s4N, s6N]
            exact ⟨hs, hv, c + t, by omega, rfl⟩
          · rw [sN3 3 q (by omega) e, sN3 4 q (by omega) e, show sI' 6 q = sI 6 q from ru_i _ _ e]
            exact d7 q (by omega)
  · have A : fMain_token n (ad 0 0) v0 v1 v2 (G1, sz) = some (-1, (G1, sz)) := by
      unfold fMain_token
      rw [q_is hm, Option.bind_some, q_bp k1]
      rfl
    have B : fRef_token n (bd 0) v0 v1 v2 (G2, sz) = some (-1, z2) := by
      unfold fRef_token
      rw [e2, Option.bind_some, r_is hR2, Option.bind_some, q_bp k2, if_pos rfl]
    exact ⟨_, _, _, A, B, sim_mk rfl rfl hC hR2 hz2 hRS0 hV⟩
