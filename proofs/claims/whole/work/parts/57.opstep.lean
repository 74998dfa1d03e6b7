theorem isbit (n : Nat) (i : Int32) (z : gS) : fMain_isBit n i z = some (if i < 0 ∨ 7 < i then 0 else 1, z) := by
  unfold fMain_isBit
  by_cases a : i < 0
  · rw [if_pos a, if_pos (Or.inl a)]
  · rw [if_neg a]
    by_cases b : 7 < i
    · rw [if_pos b, if_pos (Or.inr b)]
    · rw [if_neg b, if_neg (fun q => q.elim a b)]
theorem op_step (n x y : Nat) (hn : 1000 < n) : OP_step n x y (Sim x y) := by
  intro G1 G2 sz v0 v1 v2 v3 hv3 hS
  obtain ⟨ad, ce, bd, iv, fa, sI, sO, sL, sN, au, rfl, rfl, hC, hR, hRS, hV⟩ := hS
  have hm := c_m hC
  have hnT := hC.nT
  have hnS := hC.nS
  have hRS0 := hRS.code 0
  obtain ⟨z2, e2, hR2, hz2⟩ := r_p0 hR 0
  obtain ⟨h1, h2, h3, h4, h5, h6, h7, h8, h9⟩ := id hC
  obtain ⟨g1, ⟨g, g2, g3⟩, g4⟩ := id h5
  have ha := h1.get (t := 2) (i := 0) (by simp [cnC]) g2
  have i4 : g_fI z2 (bd 0) 9 4 = some (nI (sN 0 1)) := by rw [r_I hR2 4 rfl]; exact congrArg some hRS.1.2.2.2.1
  have no : fMain_step n (ad 0 0) v0 v1 v2 v3 (G1, sz) = some (-1, (G1, sz)) → fRef_step n (bd 0) v0 v1 v2 v3 (G2, sz) = some (-1, z2) → ∃ (r : Int32) (z1 z2 : gS), fMain_step n (ad 0 0) v0 v1 v2 v3 (G1, sz) = some (r, z1) ∧ fRef_step n (bd 0) v0 v1 v2 v3 (G2, z1.2) = some (r, z2) ∧ Sim (ad 0 0) (bd 0) z1.1 z2.1 z2.2 := fun a b => ⟨-1, (G1, sz), z2, a, b, sim_mk rfl rfl hC hR2 hz2 hRS0 hV⟩
  by_cases c0 : v0 < 0 ∨ 7 < v0
  · refine no ?_ ?_
    · unfold fMain_step
      rw [q_bp (isbit n v0 _), if_pos c0, if_pos rfl]
    · unfold fRef_step
      rw [e2, Option.bind_some, i4, Option.bind_some]
      by_cases d0 : v0 < 0
      · rw [if_pos d0]; split <;> rfl
      · rw [if_neg d0, if_pos (c0.resolve_left d0)]; split <;> rfl
  by_cases c1 : v1 < 0 ∨ 7 < v1
  · refine no ?_ ?_
    · unfold fMain_step
      rw [q_bp (isbit n v0 _), if_neg c0, if_neg (by decide), q_bp (isbit n v1 _), if_pos c1, if_pos rfl]
    · unfold fRef_step
      rw [e2, Option.bind_some, i4, Option.bind_some, if_neg (fun q => c0 (Or.inl q)), if_neg (fun q => c0 (Or.inr q))]
      by_cases d0 : v1 < 0
      · rw [if_pos d0]; split <;> rfl
      · rw [if_neg d0, if_pos (c1.resolve_left d0)]; split <;> rfl
  by_cases c2 : v2 < 0 ∨ 7 < v2
  · refine no ?_ ?_
    · unfold fMain_step
      rw [q_bp (isbit n v0 _), if_neg c0, if_neg (by decide), q_bp (isbit n v1 _), if_neg c1, if_neg (by decide), q_bp (isbit n v2 _), if_pos c2, if_pos rfl]
    · unfold fRef_step
      rw [e2, Option.bind_some, i4, Option.bind_some, if_neg (fun q => c0 (Or.inl q)), if_neg (fun q => c0 (Or.inr q)), if_neg (fun q => c1 (Or.inl q)), if_neg (fun q => c1 (Or.inr q))]
      by_cases d0 : v2 < 0
      · rw [if_pos d0]; split <;> rfl
      · rw [if_neg d0, if_neg (Int32.not_le.mpr (c2.resolve_left d0))]; split <;> rfl
  have pre : ∀ R : Option (Int32 × gS), (if nI (sN 0 1) < nI 12 then (g_bp (g_nwO (G1, sz) 4 [.null, .null]) fun a_15 z_16 => (fStep_init n a_15 z_16).bind fun z_17 => if v3 = 0 then ((g_is z_17 (ad 0 0) 8).bind fun _ => (fMain_keepSeen n (ad 0 0) a_15 v0 v1 v2 z_17).bind fun z_20 => fMain_step_J58 n (ad 0 0) a_15 z_20) else fMain_step_J58 n (ad 0 0) a_15 z_17) else some (-1, (G1, sz))) = R → fMain_step n (ad 0 0) v0 v1 v2 v3 (G1, sz) = R := by
    intro R q
    unfold fMain_step
    rw [q_bp (isbit n v0 _), if_neg c0, if_neg (by decide), q_bp (isbit n v1 _), if_neg c1, if_neg (by decide), q_bp (isbit n v2 _), if_neg c2, if_neg (by decide), q_fI hm (k := 7) (x := nI (sN 0 1)) rfl, Option.bind_some, q_fR hm (k := 1) (r := some (ad 2 0)) rfl, Option.bind_some, Option.bind_some, q_lenR ha, Option.bind_some]
    exact q
  have preR : ∀ (G : Nat → Option gE) (s9 : Nat) (z9 : gS) (R : Option (Int32 × gS)), g_pF (G, s9) (bd 0) 9 0 (.int 0) = some z9 → g_fI z9 (bd 0) 9 4 = some (nI (sN 0 1)) → (if nI (sN 0 1) = 12 then some (-1, z9) else fRef_step_L49 n n (bd 0) v0 v1 v2 v3 0 z9) = R → fRef_step n (bd 0) v0 v1 v2 v3 (G, s9) = R := by
    intro G s9 z9 R q1 q2 q3
    unfold fRef_step
    rw [q1, Option.bind_some, q2, Option.bind_some, if_neg (fun q => c0 (Or.inl q)), if_neg (fun q => c0 (Or.inr q)), if_neg (fun q => c1 (Or.inl q)), if_neg (fun q => c1 (Or.inr q)), if_neg (fun q => c2 (Or.inl q)), if_pos (Int32.not_lt.mp (fun q => c2 (Or.inr q)))]
    exact q3
  by_cases cT : sN 0 1 = 12
  · exact no (pre _ (by rw [if_neg (fun q => absurd ((nI_ltI (by omega) (by omega)).mp q) (by omega))])) (preR _ _ _ _ e2 i4 (by rw [cT, if_pos (show nI 12 = 12 from rfl)]))
  obtain ⟨T, hT⟩ : ∃ T, T = sN 0 1 := ⟨_, rfl⟩
  have hT12 : T < 12 := by omega
  obtain ⟨z3, e3, s3, o3, m0, m1, m2, t3, t5⟩ := step_make G1 sz n
  -- what is kept
  obtain ⟨z4, k4, e4, s4, o4, w4, kk4⟩ : ∃ (z4 : gS) (k4 : Nat → Option Nat), (if v3 = 0 then ((g_is z3 (ad 0 0) 8).bind fun _ => (fMain_keepSeen n (ad 0 0) sz v0 v1 v2 z3).bind fun z_20 => fMain_step_J58 n (ad 0 0) sz z_20) else fMain_step_J58 n (ad 0 0) sz z3) = fMain_step_J58 n (ad 0 0) sz z4 ∧ z4.2 = sz + 7 ∧ (∀ q, q ≠ sz + 1 → z4.1 q = z3.1 q) ∧ z4.1 (sz + 1) = some (aR "SecretRows$Value" 10 k4) ∧ ∀ t, k4 t = (kpS sI sO (sN 0 0) v3 v0 v1 v2 t).map (ad 22) := by
    by_cases c3 : v3 = 0
    · have hC3 : C1 z3 ad ce sI sO sL sN au := hC.keepz (by show sz ≤ z3.2; omega) (fun q hq => o3 q hq)
      obtain ⟨z4, k4, a1, a2, a3, a4, a5⟩ := keep_loop hC hV n v0 v1 v2 n 0 (fun _ => none) z3 (by omega) (by omega) s3 o3 m0 m1 (fun _ _ => rfl)
      refine ⟨z4, k4, ?_, a2, a3, a4, fun t => ?_⟩
      · rw [if_pos c3, q_is (c_m hC3), Option.bind_some]
        unfold fMain_keepSeen
        rw [nI_0] at a1
        rw [a1, Option.bind_some]
      · rw [a5 t, c3]
        by_cases c : t < sN 0 0
        · rw [if_pos ⟨Nat.zero_le _, c⟩]
        · rw [if_neg (fun q => c q.2)]
          unfold kpS
          rw [if_neg c]
          rfl
    · refine ⟨z3, fun _ => none, by rw [if_neg c3], s3, fun _ _ => rfl, m1, fun t => ?_⟩
      unfold kpS
      rw [if_neg c3]
      split <;> rfl
  have t3' : tx z4 (sz + 3) (sz + 4) 300 [] := t3.keep (o4 _ (by omega)) (o4 _ (by omega))
  have t5' : tx z4 (sz + 5) (sz + 6) 300 [] := t5.keep (o4 _ (by omega)) (o4 _ (by omega))
  obtain ⟨u3, -, -, f3, u4, -⟩ := t3'
  obtain ⟨u5, -, -, f5, u6, -⟩ := t5'
  let nc : Nat → gE := fun j => if j = 0 then .inr (4, [.ref (sz + 1), .ref (sz + 2)]) else if j = 1 then aR "SecretRows$Value" 10 k4 else if j = 2 then .inr (3, [.ref (sz + 3), .ref (sz + 5), .int 0, .int 0, .int 0]) else if j = 3 then .inr (0, [.ref (sz + 4), .int (nI 0)]) else if j = 4 then .inl (.char, 300, .inl f3) else if j = 5 then .inr (0, [.ref (sz + 6), .int (nI 0)]) else .inl (.char, 300, .inl f5)
  have n1 := h1.batch (z1 := z4) 14 7 T nc (fun t q1 q2 => by unfold cnC; rw [if_neg (by omega), if_neg (by omega), if_pos (by omega), hT]) s4 (fun q hq => by rw [o4 q (by show q ≠ sz + 1; have : q < sz := hq; omega), o3 q hq]) (fun j hj => by
    have : j = 0 ∨ j = 1 ∨ j = 2 ∨ j = 3 ∨ j = 4 ∨ j = 5 ∨ j = 6 := by omega
    rcases this with rfl | rfl | rfl | rfl | rfl | rfl | rfl
    · exact (o4 sz (by omega)).trans m0
    · exact w4
    · exact (o4 _ (by omega)).trans m2
    · exact u3
    · exact u4
    · exact u5
    · exact u6)
  obtain ⟨ad', ead⟩ : ∃ ad' : Nat → Nat → Nat, ad' = fun t i => if 14 ≤ t ∧ t < 14 + 7 ∧ i = T then sz + (t - 14) else ad t i := ⟨_, rfl⟩
  obtain ⟨cx, ecx⟩ : ∃ cx : Nat → Nat → gE, cx = fun t i => if 14 ≤ t ∧ t < 14 + 7 ∧ i = T then nc (t - 14) else ce t i := ⟨_, rfl⟩
  have n1 : rh z4 ad' cx (fun t => if 14 ≤ t ∧ t < 14 + 7 then T + 1 else cnC sN t) := by rw [ead, ecx]; exact n1
  have adt : ∀ t i, ¬ (14 ≤ t ∧ t ≤ 20 ∧ i = T) → ad' t i = ad t i := fun t i q => by rw [ead]; exact if_neg (by omega)
  have adn : ∀ t, 14 ≤ t → t ≤ 20 → ad' t T = sz + (t - 14) := fun t q1 q2 => by rw [ead]; exact if_pos (by omega)
  have cxt : ∀ t i, ¬ (14 ≤ t ∧ t ≤ 20 ∧ i = T) → cx t i = ce t i := fun t i q => by rw [ecx]; exact if_neg (by omega)
  have cxn : ∀ t, 14 ≤ t → t ≤ 20 → cx t T = nc (t - 14) := fun t q1 q2 => by rw [ecx]; exact if_pos (by omega)
  have ad22 : ad' 22 = ad 22 := funext fun i => adt 22 i (by omega)
  let sO' : Nat → Nat → Option Nat := fun t i => if t = 2 + T then kpS sI sO (sN 0 0) v3 v0 v1 v2 i else sO t i
  let sN' := ru (ru (ru sN 0 1 (T + 1)) 1 T 0) 2 T 0
  let sI' := ru sI 5 T 0
  let sL' := ru (ru sL 1 T []) 2 T []
  have sOt : ∀ t i, t ≠ 2 + T → sO' t i = sO t i := fun t i q => if_neg q
  have sON : ∀ i, sO' (2 + T) i = kpS sI sO (sN 0 0) v3 v0 v1 v2 i := fun i => if_pos rfl
  have sN0 : ∀ i, i ≠ 1 → sN' 0 i = sN 0 i := fun i hi => by
    show ru (ru (ru sN 0 1 (T + 1)) 1 T 0) 2 T 0 0 i = _
    rw [ru_t _ _ (by omega), ru_t _ _ (by omega), ru_i _ _ hi]
  have sNN : sN' 0 1 = T + 1 := by
    show ru (ru (ru sN 0 1 (T + 1)) 1 T 0) 2 T 0 0 1 = _
    rw [ru_t _ _ (by omega), ru_t _ _ (by omega), ru_s]
  have sNt : ∀ t i, t ≠ 0 → (t ≠ 1 ∧ t ≠ 2 ∨ i ≠ T) → sN' t i = sN t i := fun t i q1 q2 => by
    show ru (ru (ru sN 0 1 (T + 1)) 1 T 0) 2 T 0 t i = _
    rw [ru_n _ _ (by omega), ru_n _ _ (by omega), ru_t _ _ q1]
  have sN1T : sN' 1 T = 0 := by
    show ru (ru (ru sN 0 1 (T + 1)) 1 T 0) 2 T 0 1 T = _
    rw [ru_t _ _ (by omega), ru_s]
  have sN2T : sN' 2 T = 0 := ru_s _ _ _ _
  have sIt : ∀ t i, (t ≠ 5 ∨ i ≠ T) → sI' t i = sI t i := fun t i q => ru_n _ _ (by omega)
  have sI5T : sI' 5 T = 0 := ru_s _ _ _ _
  have sLt : ∀ t i, (t ≠ 1 ∧ t ≠ 2 ∨ i ≠ T) → sL' t i = sL t i := fun t i q => by
    show ru (ru sL 1 T []) 2 T [] t i = _
    rw [ru_n _ _ (by omega), ru_n _ _ (by omega)]
  have sL1T : sL' 1 T = [] := by
    show ru (ru sL 1 T []) 2 T [] 1 T = _
    rw [ru_t _ _ (by omega), ru_s]
  have sL2T : sL' 2 T = [] := ru_s _ _ _ _
  let AR := aR "SecretRows$Step" 12 (va_up g T (some sz))
  have n2 := n1.set (t := 2) (i := 0) (by simp [cnC]) AR
  have n3 := n2.set (t := 0) (i := 0) (by simp [cnC]) (cM ad' sI' sN')
  let ce' := ru (ru cx 2 0 AR) 0 0 (cM ad' sI' sN')
  have k : ∀ t i, t ≠ 0 → t ≠ 2 → ¬ (14 ≤ t ∧ t ≤ 20 ∧ i = T) → ce' t i = ce t i := fun t i q0 q1 q2 => by
    show ru (ru cx 2 0 AR) 0 0 (cM ad' sI' sN') t i = _
    rw [ru_t _ _ q0, ru_t _ _ q1, cxt t i q2]
  have kn : ∀ t, 14 ≤ t → t ≤ 20 → ce' t T = nc (t - 14) := fun t q0 q1 => by
    show ru (ru cx 2 0 AR) 0 0 (cM ad' sI' sN') t T = _
    rw [ru_t _ _ (by omega), ru_t _ _ (by omega), cxn t q0 q1]
  have hC' : C1 (g_up (g_up z4 (ad' 2 0) AR) (ad' 0 0) (cM ad' sI' sN')) ad' ce' sI' sO' sL' sN' au := by
    refine ⟨n3.cn (fun t => ?_), ru_s _ _ _ _, h3.cg (sN0 0 (by omega)) (k _ _ (by omega) (by omega) (by omega)) (fun i _ => k _ _ (by omega) (by omega) (by omega)) (fun i _ => adt 13 i (by omega)) (fun i _ => ?_), h4.cg (sN0 3 (by omega)) (fun t v q1 q2 _ => ⟨k _ _ (by omega) (by omega) (by omega), adt t v (by omega)⟩) (fun v _ => sLt 0 v (by omega)), ?_, h6.cg (sN0 2 (by omega)) (k _ _ (by omega) (by omega) (by omega)) (fun i _ => ⟨k _ _ (by omega) (by omega) (by omega), adt 21 i (by omega)⟩) (fun i _ => ⟨sNt 3 i (by omega) (by omega), by rw [ad22, sNt 4 i (by omega) (by omega)], sIt 6 i (by omega)⟩), h7.cg (k _ _ (by omega) (by omega) (by omega)) (k _ _ (by omega) (by omega) (by omega)) (adt 5 0 (by omega)), ?_, h9.cg (fun t q1 q2 => ⟨k _ _ (by omega) (by omega) (by omega), adt t 0 (by omega)⟩)⟩
    · show cnC sN' t = if 14 ≤ t ∧ t < 14 + 7 then T + 1 else cnC sN t
      by_cases q : 14 ≤ t ∧ t < 14 + 7
      · rw [if_pos q]
        unfold cnC
        rw [if_neg (by omega), if_neg (by omega), if_pos (by omega), sNN]
      · rw [if_neg q]
        unfold cnC
        rw [sN0 0 (by omega), sN0 2 (by omega), sN0 3 (by omega)]
        by_cases q1 : t < 13
        · rw [if_pos q1, if_pos q1]
        · rw [if_neg q1, if_neg q1]
          by_cases q2 : t = 13
          · rw [if_pos q2, if_pos q2]
          · have q3 : ¬ t < 21 := by omega
            rw [if_neg q2, if_neg q2]
            simp only [if_neg q3]
    · unfold cS
      rw [sIt 0 i (by omega), sIt 1 i (by omega), sIt 2 i (by omega), sIt 3 i (by omega), sIt 4 i (by omega), ad22, sOt 0 i (by omega), sOt 1 i (by omega)]
    · refine ⟨by rw [sNN]; omega, ⟨va_up g T (some sz), ?_, fun i hi => ?_⟩, fun i hi => ?_⟩
      · show ru (ru cx 2 0 AR) 0 0 (cM ad' sI' sN') 2 0 = _
        rw [ru_t _ _ (by omega), ru_s]
      · rw [sNN] at hi
        by_cases q : i = T
        · subst q
          rw [va_up_self, adn 14 (by omega) (by omega)]
          rfl
        · rw [va_up_ne _ _ q, g3 i (by omega), adt 14 i (by omega)]
      · rw [sNN] at hi
        by_cases q : i = T
        · subst q
          rw [kn 14 (by omega) (by omega), kn 15 (by omega) (by omega), kn 16 (by omega) (by omega), adn 15 (by omega) (by omega), adn 16 (by omega) (by omega), adn 17 (by omega) (by omega), adn 19 (by omega) (by omega), sN1T, sN2T, sI5T, sL1T, sL2T]
          refine ⟨rfl, ⟨k4, rfl, fun s _ => by rw [sON, ad22]; exact kk4 s⟩, rfl, ⟨?_, by simp, by omega, f3, ?_, fun j hj => by simp at hj⟩, ⟨?_, by simp, by omega, f5, ?_, fun j hj => by simp at hj⟩⟩
          · rw [kn 17 (by omega) (by omega), adn 18 (by omega) (by omega)]
            rfl
          · rw [kn 18 (by omega) (by omega)]
            rfl
          · rw [kn 19 (by omega) (by omega), adn 20 (by omega) (by omega)]
            rfl
          · rw [kn 20 (by omega) (by omega)]
            rfl
        · obtain ⟨a1, ⟨ga, a2, a3⟩, a4, a5, a6⟩ := g4 i (by omega)
          rw [k 14 i (by omega) (by omega) (by omega), k 15 i (by omega) (by omega) (by omega), k 16 i (by omega) (by omega) (by omega), adt 15 i (by omega), adt 16 i (by omega), adt 17 i (by omega), adt 19 i (by omega), sNt 1 i (by omega) (by omega), sNt 2 i (by omega) (by omega), sIt 5 i (by omega), sLt 1 i (by omega), sLt 2 i (by omega)]
          exact ⟨a1, ⟨ga, a2, fun s hs => by rw [sOt _ _ (by omega), ad22]; exact a3 s hs⟩, a4, a5.keep (adt 18 i (by omega)) (k 17 i (by omega) (by omega) (by omega)) (k 18 i (by omega) (by omega) (by omega)), a6.keep (adt 20 i (by omega)) (k 19 i (by omega) (by omega) (by omega)) (k 20 i (by omega) (by omega) (by omega))⟩
    · rw [sLt 3 0 (by omega)]
      exact h8.keep (adt 7 0 (by omega)) (k _ _ (by omega) (by omega) (by omega)) (k _ _ (by omega) (by omega) (by omega))
  have e20 : ad' 2 0 = ad 2 0 := adt 2 0 (by omega)
  have e00 : ad' 0 0 = ad 0 0 := adt 0 0 (by omega)
  have hx2 := n1.get (t := 2) (i := 0) (by simp [cnC]) ((cxt 2 0 (by omega)).trans g2)
  have hx0 := n1.get (t := 0) (i := 0) (by simp [cnC]) ((cxt 0 0 (by omega)).trans h2)
  have hy0 := n2.get (t := 0) (i := 0) (by simp [cnC]) ((ru_t _ _ (by omega)).trans ((cxt 0 0 (by omega)).trans h2))
  have hm' := c_m hC'
  rw [e00] at hx0 hy0 hm'
  rw [e20] at hx2 hy0 hm'
  have em : cM ad' sI' sN' = .inr (8, List.set [.ref (ad 1 0), .ref (ad 2 0), .ref (ad 3 0), .ref (ad 4 0), .ref (ad 6 0), .ref (ad 8 0), .int (nI (sN 0 0)), .int (nI (sN 0 1)), .int (nI (sN 0 2)), .int (nI (sN 0 3)), .int (sI 7 0), .int (sI 8 0), .int (sI 8 1), .int (sI 8 2)] 7 (.int (nI (T + 1)))) := by
    unfold cM
    rw [adt 1 0 (by omega), adt 2 0 (by omega), adt 3 0 (by omega), adt 4 0 (by omega), adt 6 0 (by omega), adt 8 0 (by omega), sNN, sN0 0 (by omega), sN0 2 (by omega), sN0 3 (by omega), sIt 7 0 (by omega), sIt 8 0 (by omega), sIt 8 1 (by omega), sIt 8 2 (by omega)]
    rfl
  have A : fMain_step n (ad 0 0) v0 v1 v2 v3 (G1, sz) = some (nI T, g_up (g_up z4 (ad 2 0) AR) (ad 0 0) (cM ad' sI' sN')) := by
    apply pre
    rw [if_pos ((nI_ltI (by omega) (by omega)).mpr (by omega)), q_bp q_nwO, e3, Option.bind_some, e4]
    unfold fMain_step_J58
    have ms : z4.1 sz = some (.inr (4, [.ref (sz + 1), .ref (sz + 2)])) := (o4 sz (by omega)).trans m0
    rw [q_fR hx0 (k := 1) (r := some (ad 2 0)) rfl, Option.bind_some, q_fI hx0 (k := 7) (x := nI (sN 0 1)) rfl, Option.bind_some, Option.bind_some, q_is ms, Option.bind_some, ← hT, q_stR hx2 hT12 (by omega), Option.bind_some]
    change (g_fI (g_up z4 (ad 2 0) AR) (ad 0 0) 8 7).bind (fun v_13 => (g_pF (g_up z4 (ad 2 0) AR) (ad 0 0) 8 7 (.int (v_13 + 1))).bind _) = _
    rw [q_fI hy0 (k := 7) (x := nI (sN 0 1)) rfl, Option.bind_some, q_pF hy0 (Nat.le_of_ble_eq_true rfl), Option.bind_some, ← hT, nI_1]
    have em2 := em
    rw [← hT] at em2
    rw [← em2, q_fI hm' (k := 7) (x := nI (sN' 0 1)) rfl, Option.bind_some, sNN, nI_pred]
  have hRz : R2 (G2, sz + 7) bd iv fa := R2.sz hR (by omega)
  obtain ⟨y2, f2, hRy, hzy⟩ := r_p0 hRz 0
  have j4 : (up1 iv 0 0) 4 = nI T := by rw [hT]; exact hRS.1.2.2.2.1
  have j2 : (up1 iv 0 0) 2 = nI (sN 0 0) := hRS.1.2.1
  obtain ⟨y3, fa1, b1, b2, b3, b4, b5, b6⟩ := rstep_loop (sI := sI) (sO := sO) n v0 v1 v2 v3 hnS hT12 j2 j4 n 0 fa y2 (by omega) (by omega) hRy (fun q hq => by
    obtain ⟨p1, p2, p3, p4, -, -, p7⟩ := hRS.2.2.1 q hq
    exact ⟨p1, p2, p3, p4, p7⟩)
  have B : fRef_step n (bd 0) v0 v1 v2 v3 (G2, sz + 7) = some (nI T, y3) := by
    refine preR _ _ _ _ f2 (by rw [r_I hRy 4 rfl]; exact congrArg some hRS.1.2.2.2.1) ?_
    rw [← hT, if_neg (show ¬ nI T = 12 from fun q => absurd ((nI_eq (b := 12) (by omega) (by omega)).mp q) (by omega))]
    rw [nI_0] at b1
    exact b1
  have hC2 : C1 (g_up (g_up z4 (ad 2 0) AR) (ad 0 0) (cM ad' sI' sN')) ad' ce' sI' sO' sL' sN' au := by
    have := hC'
    rw [e20, e00] at this
    exact this
  have hz4 : (g_up (g_up z4 (ad 2 0) AR) (ad 0 0) (cM ad' sI' sN')).2 = sz + 7 := s4
  refine ⟨_, _, y3, A, by rw [hz4]; exact B, sim_mk e00.symm rfl hC2 b2 ?_ ?_ ?_⟩
  · rw [b3, hzy, hz4]
  · obtain ⟨⟨a1, a2, a3, a4, a5, a6, a7, a8, a9⟩, c1, c2, c3, c4, c5, c6, c7, c8⟩ := hRS
    refine ⟨⟨a1.trans (sIt 7 0 (by omega)).symm, ?_, ?_, ?_, ?_, a6, ?_, a8.trans (sIt 8 0 (by omega)).symm, ?_⟩, ?_, ?_, ?_, ?_, ?_, ?_, ?_, ?_⟩
    · rw [sN0 0 (by omega)]; exact a2
    · rw [sN0 3 (by omega)]; exact a3
    · rw [sNN]; rfl
    · rw [sN0 2 (by omega)]; exact a5
    · rw [sLt 3 0 (by omega)]; exact a7
    · rw [sIt 8 0 (by omega), sIt 8 1 (by omega), sIt 8 2 (by omega)]; exact a9
    · rw [sN0 3 (by omega), b4 7 (by omega), b4 8 (by omega), b4 9 (by omega)]
      intro v hv
      rw [sNt 5 v (by omega) (by omega), sLt 0 v (by omega)]
      exact c1 v hv
    · rw [sN0 0 (by omega), b4 10 (by omega), b4 11 (by omega), b4 12 (by omega), b4 13 (by omega), b4 14 (by omega), b4 15 (by omega), b4 16 (by omega)]
      intro q hq
      rw [sIt 0 q (by omega), sIt 1 q (by omega), sIt 2 q (by omega), sIt 3 q (by omega), sIt 4 q (by omega), sOt 0 q (by omega), sOt 1 q (by omega)]
      exact c2 q hq
    · rw [sN0 0 (by omega), b4 15 (by omega), b4 16 (by omega)]
      exact c3
    · rw [sLt 3 0 (by omega), b4 17 (by omega)]
      exact c4
    · rw [sNN, b4 20 (by omega), b4 21 (by omega), b4 22 (by omega), b4 23 (by omega), b4 24 (by omega), b4 25 (by omega), b4 26 (by omega)]
      intro i hi
      by_cases q : i = T
      · subst q
        obtain ⟨w1, w2, w3, w4, w5⟩ := c6 i (by omega) (by omega)
        rw [sL1T, sL2T, sN1T, sN2T, sI5T]
        exact ⟨fun s hs => by rw [sON]; exact b5 s (by omega) hs, fun j hj => by simp at hj, w1, w2, fun j hj => by simp at hj, w3, w4, w5⟩
      · rw [sNt 1 i (by omega) (by omega), sNt 2 i (by omega) (by omega), sIt 5 i (by omega), sLt 1 i (by omega), sLt 2 i (by omega)]
        obtain ⟨p1, p2⟩ := c5 i (by omega)
        refine ⟨fun s hs => ?_, p2⟩
        rw [sOt _ _ (by omega), b6 _ (by omega)]
        exact p1 s hs
    · rw [sNN, b4 21 (by omega), b4 22 (by omega), b4 24 (by omega), b4 25 (by omega), b4 26 (by omega)]
      intro i q1 q2
      exact c6 i (by omega) q2
    · rw [b4 27 (by omega), b4 28 (by omega), b4 29 (by omega)]
      exact c7
    · rw [sN0 2 (by omega), b4 30 (by omega), b4 31 (by omega), b4 32 (by omega)]
      intro q hq
      rw [sNt 3 q (by omega) (by omega), sNt 4 q (by omega) (by omega), sIt 6 q (by omega)]
      exact c8 q hq
  · obtain ⟨d1, d2, d3, d4, d5, d6, d7⟩ := hV
    refine ⟨by rw [sIt 7 0 (by omega)]; exact d1, by rw [sIt 8 0 (by omega), sIt 8 1 (by omega), sIt 8 2 (by omega)]; exact d2, by rw [sLt 3 0 (by omega)]; exact d3, ?_, ?_, ?_, ?_⟩
    · rw [sN0 3 (by omega)]
      intro v hv
      rw [sNt 5 v (by omega) (by omega), sN0 0 (by omega), sLt 0 v (by omega)]
      exact d4 v hv
    · rw [sN0 0 (by omega)]
      intro q hq
      rw [sIt 3 q (by omega), sIt 4 q (by omega), sOt 0 q (by omega), sOt 1 q (by omega)]
      obtain ⟨p1, p2, p3, p4⟩ := d5 q hq
      refine ⟨p1, fun v hv => ?_, fun v hv => ?_, p4⟩
      · rw [sN0 3 (by omega), sNt 5 v (by omega) (by omega)]; exact p2 v hv
      · rw [sN0 3 (by omega), sNt 5 v (by omega) (by omega)]; exact p3 v hv
    · rw [sNN]
      intro i hi
      rw [sN0 0 (by omega), sN0 3 (by omega)]
      by_cases q : i = T
      · subst q
        rw [sL1T, sL2T, sN1T, sN2T, sI5T]
        refine ⟨Or.inl rfl, fun s v q1 q2 => ?_, fun x hx => by simp at hx, fun x hx => by simp at hx, by simp, by simp, by simp, by simp⟩
        rw [sON] at q2
        unfold kpS at q2
        by_cases w1 : s < sN 0 0
        · rw [if_pos w1] at q2
          by_cases w2 : v3 = 0
          · rw [if_pos w2] at q2
            by_cases w3 : sI 4 s = 0
            · rw [if_pos w3] at q2
              by_cases w4 : sbt sI v0 v1 v2 s = 1
              · rw [if_pos w4] at q2
                exact ⟨w1, ((d5 s w1).2.1 v q2).1⟩
              · rw [if_neg w4] at q2
                cases q2
            · rw [if_neg w3] at q2
              cases q2
          · rw [if_neg w2] at q2
            cases q2
        · rw [if_neg w1] at q2
          cases q2
      · rw [sIt 5 i (by omega), sNt 1 i (by omega) (by omega), sNt 2 i (by omega) (by omega), sLt 1 i (by omega), sLt 2 i (by omega)]
        obtain ⟨p1, p2, p3⟩ := d6 i (by omega)
        refine ⟨p1, fun s v q1 q2 => ?_, p3⟩
        rw [sOt _ _ (by omega)] at q2
        exact p2 s v q1 q2
    · rw [sN0 2 (by omega)]
      intro q hq
      rw [sN0 0 (by omega), sN0 3 (by omega), sNt 3 q (by omega) (by omega), sNt 4 q (by omega) (by omega), sIt 6 q (by omega)]
      exact d7 q hq
