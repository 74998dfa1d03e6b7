/-- set's success on the class's side -/
theorem c_rot {G : Nat → Option gE} {sz : Nat} {ad : Nat → Nat → Nat} {ce : Nat → Nat → gE} {sI : Nat → Nat → Int32} {sO : Nat → Nat → Option Nat} {sL : Nat → Nat → List Int32} {sN : Nat → Nat → Nat} {au : List (Int32 × Int32 × Int32)} (hC : C1 (G, sz) ad ce sI sO sL sN au) (hV : VS sI sO sL sN) (n : Nat) (hn : 1000 < n) {s V t : Nat} (hs : s < sN 0 0) (hVn : V = sN 0 3) (hV24 : V < 24) (hl : (sL 3 0).length ≤ 12) (o1 : Option Nat) (t1 : Int32) (hot : (sO 0 s = none ∧ o1 = sO 1 s ∧ t1 = sI 3 s) ∨ ∃ w, sO 0 s = some w ∧ o1 = some w ∧ t1 = sI 7 0 + nI t) (ho1 : ∀ w, o1 = some w → w < V) :
    ∃ (z1 : gS) (ad' : Nat → Nat → Nat) (ce' : Nat → Nat → gE), (g_bp (g_nwO (G, sz) 1 [.int 0, .null, .null, .null]) fun a_16 z_17 => (g_fI z_17 (ad 0 0) 8 9).bind fun v_18 => (g_fR z_17 (ad 0 0) 8 4).bind fun r_19 => r_19.bind fun a_20 => (fValue_init n a_16 v_18 a_20 z_17).bind fun z_21 => (g_fI z_21 (ad 0 0) 8 10).bind fun v_22 => (g_is z_21 (ad 13 s) 2).bind fun _ => (fSecret_rotate n (ad 13 s) a_16 (v_22 + nI t) z_21).bind fun z_24 => (g_fI z_24 (ad 0 0) 8 9).bind fun v_25 => (g_pF z_24 (ad 0 0) 8 9 (.int (v_25 + 1))).bind fun z_26 => some ((1 : Int32), z_26)) = some (1, z1) ∧ z1.2 = sz + 7 ∧ ad' 0 0 = ad 0 0 ∧ ad' 6 0 = ad 6 0 ∧ C1 z1 ad' ce' (ru sI 3 s t1) (ru (ru sO 1 s o1) 0 s (some V)) (ru sL 0 V (sL 3 0)) (ru (ru sN 0 3 (V + 1)) 5 V s) au := by
  have hm := c_m hC
  have hse := hC.sec hs
  have ht := hC.tpx
  obtain ⟨h1, h2, h3, h4, h5, h6, h7, h8, h9⟩ := id hC
  obtain ⟨d1, d2, d3, d4, d5, d6, d7⟩ := id hV
  have lt0 : ad 0 0 < sz := h1.2.1 0 0 (by simp [cnC])
  have lt6 : ad 6 0 < sz := h1.2.1 6 0 (by simp [cnC])
  have lt7 : ad 7 0 < sz := h1.2.1 7 0 (by simp [cnC])
  have ltS : ad 13 s < sz := h1.2.1 13 s (by simp [cnC]; exact hs)
  obtain ⟨zv, ev, sv, ov, m0, u1, u3, u5⟩ := value_make G sz n ht lt6 lt7 hl d3 hn (nI V)
  obtain ⟨p1, p1a, p1b, f1, p2, p2a⟩ := id u1
  obtain ⟨p3, p3a, p3b, f3, p4, p4a⟩ := id u3
  obtain ⟨p5, p5a, p5b, f5, p6, p6a⟩ := id u5
  let nc : Nat → gE := fun j => if j = 0 then .inr (1, [.int (nI V), .ref (sz + 1), .ref (sz + 3), .ref (sz + 5)]) else if j = 1 then .inr (0, [.ref (sz + 2), .int (nI (sL 3 0).length)]) else if j = 2 then .inl (.char, (sL 3 0).length, .inl f1) else if j = 3 then .inr (0, [.ref (sz + 4), .int (nI (sL 3 0).reverse.length)]) else if j = 4 then .inl (.char, (sL 3 0).length, .inl f3) else if j = 5 then .inr (0, [.ref (sz + 6), .int (nI (hexL (sL 3 0)).length)]) else .inl (.char, 2 * (sL 3 0).length, .inl f5)
  have n1 := h1.batch (z1 := zv) 22 7 V nc (fun t q1 q2 => by unfold cnC; rw [if_neg (by omega), if_neg (by omega), if_neg (by omega), if_neg (by omega), if_pos (by omega), hVn]) sv (fun q hq => ov q hq) (fun j hj => by
    have : j = 0 ∨ j = 1 ∨ j = 2 ∨ j = 3 ∨ j = 4 ∨ j = 5 ∨ j = 6 := by omega
    rcases this with rfl | rfl | rfl | rfl | rfl | rfl | rfl
    · exact m0
    · exact p1
    · exact p2
    · exact p3
    · exact p4
    · exact p5
    · exact p6)
  obtain ⟨ad', ead⟩ : ∃ ad' : Nat → Nat → Nat, ad' = fun t i => if 22 ≤ t ∧ t < 22 + 7 ∧ i = V then sz + (t - 22) else ad t i := ⟨_, rfl⟩
  obtain ⟨cx, ecx⟩ : ∃ cx : Nat → Nat → gE, cx = fun t i => if 22 ≤ t ∧ t < 22 + 7 ∧ i = V then nc (t - 22) else ce t i := ⟨_, rfl⟩
  have n1 : rh zv ad' cx (fun t => if 22 ≤ t ∧ t < 22 + 7 then V + 1 else cnC sN t) := by rw [ead, ecx]; exact n1
  have adt : ∀ t i, ¬ (22 ≤ t ∧ t ≤ 28 ∧ i = V) → ad' t i = ad t i := fun t i q => by rw [ead]; exact if_neg (by omega)
  have adn : ∀ t, 22 ≤ t → t ≤ 28 → ad' t V = sz + (t - 22) := fun t q1 q2 => by rw [ead]; exact if_pos (by omega)
  have cxt : ∀ t i, ¬ (22 ≤ t ∧ t ≤ 28 ∧ i = V) → cx t i = ce t i := fun t i q => by rw [ecx]; exact if_neg (by omega)
  have cxn : ∀ t, 22 ≤ t → t ≤ 28 → cx t V = nc (t - 22) := fun t q1 q2 => by rw [ecx]; exact if_pos (by omega)
  have mp : ∀ r : Option Nat, (∀ w, r = some w → w < V) → r.map (ad' 22) = r.map (ad 22) := fun r hr => by
    cases r with
    | none => rfl
    | some w => exact congrArg some (adt 22 w (fun q => by have := hr w rfl; omega))
  let sO' := ru (ru sO 1 s o1) 0 s (some V)
  let sI' := ru sI 3 s t1
  let sN' := ru (ru sN 0 3 (V + 1)) 5 V s
  let sL' := ru sL 0 V (sL 3 0)
  have sOt : ∀ t i, (2 ≤ t ∨ i ≠ s) → sO' t i = sO t i := fun t i q => by
    show ru (ru sO 1 s o1) 0 s (some V) t i = _
    rw [ru_n _ _ (by omega), ru_n _ _ (by omega)]
  have sO0 : sO' 0 s = some V := ru_s _ _ _ _
  have sO1 : sO' 1 s = o1 := by
    show ru (ru sO 1 s o1) 0 s (some V) 1 s = _
    rw [ru_t _ _ (by omega), ru_s]
  have sIt : ∀ t i, (t ≠ 3 ∨ i ≠ s) → sI' t i = sI t i := fun t i q => ru_n _ _ (by omega)
  have sI3 : sI' 3 s = t1 := ru_s _ _ _ _
  have sN0 : ∀ i, i ≠ 3 → sN' 0 i = sN 0 i := fun i hi => by
    show ru (ru sN 0 3 (V + 1)) 5 V s 0 i = _
    rw [ru_t _ _ (by omega), ru_i _ _ hi]
  have sNV : sN' 0 3 = V + 1 := by
    show ru (ru sN 0 3 (V + 1)) 5 V s 0 3 = _
    rw [ru_t _ _ (by omega), ru_s]
  have sNt : ∀ t i, t ≠ 0 → (t ≠ 5 ∨ i ≠ V) → sN' t i = sN t i := fun t i q1 q2 => by
    show ru (ru sN 0 3 (V + 1)) 5 V s t i = _
    rw [ru_n _ _ (by omega), ru_t _ _ q1]
  have sLt : ∀ t i, (t ≠ 0 ∨ i ≠ V) → sL' t i = sL t i := fun t i q => ru_n _ _ (by omega)
  have sLV : sL' 0 V = sL 3 0 := ru_s _ _ _ _
  have n2 := n1.set (t := 13) (i := s) (by simp [cnC]; exact hs) (cS ad' sI' sO' s)
  have n3 := n2.set (t := 0) (i := 0) (by simp [cnC]) (cM ad' sI' sN')
  let ce' := ru (ru cx 13 s (cS ad' sI' sO' s)) 0 0 (cM ad' sI' sN')
  have k : ∀ t i, t ≠ 0 → (t ≠ 13 ∨ i ≠ s) → ¬ (22 ≤ t ∧ t ≤ 28 ∧ i = V) → ce' t i = ce t i := fun t i q0 q1 q2 => by
    show ru (ru cx 13 s (cS ad' sI' sO' s)) 0 0 (cM ad' sI' sN') t i = _
    rw [ru_t _ _ q0, ru_n _ _ (by omega), cxt t i q2]
  have kn : ∀ t, 22 ≤ t → t ≤ 28 → ce' t V = nc (t - 22) := fun t q0 q1 => by
    show ru (ru cx 13 s (cS ad' sI' sO' s)) 0 0 (cM ad' sI' sN') t V = _
    rw [ru_t _ _ (by omega), ru_t _ _ (by omega), cxn t q0 q1]
  have hC' : C1 (g_up (g_up zv (ad' 13 s) (cS ad' sI' sO' s)) (ad' 0 0) (cM ad' sI' sN')) ad' ce' sI' sO' sL' sN' au := by
    refine ⟨n3.cn (fun t => ?_), ru_s _ _ _ _, ?_, ?_, h5.cg (sN0 1 (by omega)) (k _ _ (by omega) (by omega) (by omega)) (fun t i q1 q2 _ => ⟨k _ _ (by omega) (by omega) (by omega), adt t i (by omega)⟩) (fun i q hi hq => by
        rw [sOt _ _ (by omega)]
        exact mp _ (fun w hw => by have := ((d6 i hi).2.1 q w hq hw).2; omega)) (fun i _ => ⟨sIt 5 i (by omega), sNt 1 i (by omega) (by omega), sNt 2 i (by omega) (by omega), sLt 1 i (by omega), sLt 2 i (by omega)⟩), h6.cg (sN0 2 (by omega)) (k _ _ (by omega) (by omega) (by omega)) (fun i _ => ⟨k _ _ (by omega) (by omega) (by omega), adt 21 i (by omega)⟩) (fun i hi => ⟨sNt 3 i (by omega) (by omega), by
        rw [sNt 4 i (by omega) (by omega)]
        exact adt 22 _ (fun q => by have := (d7 i hi).2.1; omega), sIt 6 i (by omega)⟩), h7.cg (k _ _ (by omega) (by omega) (by omega)) (k _ _ (by omega) (by omega) (by omega)) (adt 5 0 (by omega)), ?_, h9.cg (fun t q1 q2 => ⟨k _ _ (by omega) (by omega) (by omega), adt t 0 (by omega)⟩)⟩
    · show cnC sN' t = if 22 ≤ t ∧ t < 22 + 7 then V + 1 else cnC sN t
      by_cases q : 22 ≤ t ∧ t < 22 + 7
      · rw [if_pos q]
        unfold cnC
        rw [if_neg (by omega), if_neg (by omega), if_neg (by omega), if_neg (by omega), if_pos (by omega), sNV]
      · rw [if_neg q]
        unfold cnC
        rw [sN0 0 (by omega), sN0 1 (by omega), sN0 2 (by omega)]
        by_cases q1 : t < 13
        · rw [if_pos q1, if_pos q1]
        · rw [if_neg q1, if_neg q1]
          by_cases q2 : t = 13
          · rw [if_pos q2, if_pos q2]
          · rw [if_neg q2, if_neg q2]
            by_cases q3 : t < 21
            · rw [if_pos q3, if_pos q3]
            · rw [if_neg q3, if_neg q3]
              by_cases q4 : t = 21
              · rw [if_pos q4, if_pos q4]
              · rw [if_neg q4, if_neg q4, if_neg (by omega), if_neg (by omega)]
    · obtain ⟨g1, ⟨g, g2, g3⟩, g4⟩ := h3
      refine ⟨by rw [sN0 0 (by omega)]; exact g1, ⟨g, (k _ _ (by omega) (by omega) (by omega)).trans g2, fun i hi => ?_⟩, fun i hi => ?_⟩
      · rw [sN0 0 (by omega)] at hi
        rw [adt 13 i (by omega)]
        exact g3 i hi
      · rw [sN0 0 (by omega)] at hi
        by_cases q : i = s
        · subst q
          show ru (ru cx 13 i (cS ad' sI' sO' i)) 0 0 (cM ad' sI' sN') 13 i = _
          rw [ru_t _ _ (by omega), ru_s]
        · rw [k 13 i (by omega) (by omega) (by omega), g4 i hi]
          unfold cS
          rw [sIt 0 i (by omega), sIt 1 i (by omega), sIt 2 i (by omega), sIt 3 i (by omega), sIt 4 i (by omega), sOt 0 i (by omega), sOt 1 i (by omega), mp (sO 0 i) (fun w hw => by have := ((d5 i hi).2.1 w hw).1; omega), mp (sO 1 i) (fun w hw => by have := ((d5 i hi).2.2.1 w hw).1; omega)]
    · obtain ⟨g1, g2⟩ := h4
      refine ⟨by rw [sNV]; omega, fun v hv => ?_⟩
      rw [sNV] at hv
      by_cases q : v = V
      · rw [q, sLV, kn 22 (by omega) (by omega), adn 23 (by omega) (by omega), adn 25 (by omega) (by omega), adn 27 (by omega) (by omega)]
        refine ⟨rfl, ⟨?_, p1a, p1b, f1, ?_, p2a⟩, ⟨?_, p3a, p3b, f3, ?_, p4a⟩, ⟨?_, p5a, p5b, f5, ?_, p6a⟩⟩
        · rw [kn 23 (by omega) (by omega), adn 24 (by omega) (by omega)]; rfl
        · rw [kn 24 (by omega) (by omega)]; rfl
        · rw [kn 25 (by omega) (by omega), adn 26 (by omega) (by omega)]; rfl
        · rw [kn 26 (by omega) (by omega)]; rfl
        · rw [kn 27 (by omega) (by omega), adn 28 (by omega) (by omega)]; rfl
        · rw [kn 28 (by omega) (by omega)]; rfl
      · obtain ⟨a1, a2, a3, a4⟩ := g2 v (by omega)
        rw [sLt 0 v (by omega), k 22 v (by omega) (by omega) (by omega), adt 23 v (by omega), adt 25 v (by omega), adt 27 v (by omega)]
        exact ⟨a1, a2.keep (adt 24 v (by omega)) (k 23 v (by omega) (by omega) (by omega)) (k 24 v (by omega) (by omega) (by omega)), a3.keep (adt 26 v (by omega)) (k 25 v (by omega) (by omega) (by omega)) (k 26 v (by omega) (by omega) (by omega)), a4.keep (adt 28 v (by omega)) (k 27 v (by omega) (by omega) (by omega)) (k 28 v (by omega) (by omega) (by omega))⟩
    · rw [sLt 3 0 (by omega)]
      exact h8.keep (adt 7 0 (by omega)) (k _ _ (by omega) (by omega) (by omega)) (k _ _ (by omega) (by omega) (by omega))
  have e13 : ad' 13 s = ad 13 s := adt 13 s (by omega)
  have e00 : ad' 0 0 = ad 0 0 := adt 0 0 (by omega)
  have y0 : zv.1 (ad 0 0) = some (cM ad sI sN) := (ov _ lt0).trans hm
  have yS : zv.1 (ad 13 s) = some (cS ad sI sO s) := (ov _ ltS).trans hse
  have hy0 := n2.get (t := 0) (i := 0) (by simp [cnC]) ((ru_t _ _ (by omega)).trans ((cxt 0 0 (by omega)).trans h2))
  rw [e13, e00] at hy0
  have eS : cS ad' sI' sO' s = .inr (2, [.int (sI 0 s), .int (sI 1 s), .int (sI 2 s), .ref sz, va_rf (o1.map (ad 22)), .int t1, .int (sI 4 s)]) := by
    unfold cS
    rw [sIt 0 s (by omega), sIt 1 s (by omega), sIt 2 s (by omega), sI3, sIt 4 s (by omega), sO0, sO1, mp o1 ho1, Option.map_some, adn 22 (by omega) (by omega)]
    rfl
  have em : cM ad' sI' sN' = .inr (8, List.set [.ref (ad 1 0), .ref (ad 2 0), .ref (ad 3 0), .ref (ad 4 0), .ref (ad 6 0), .ref (ad 8 0), .int (nI (sN 0 0)), .int (nI (sN 0 1)), .int (nI (sN 0 2)), .int (nI (sN 0 3)), .int (sI 7 0), .int (sI 8 0), .int (sI 8 1), .int (sI 8 2)] 9 (.int (nI (V + 1)))) := by
    unfold cM
    rw [adt 1 0 (by omega), adt 2 0 (by omega), adt 3 0 (by omega), adt 4 0 (by omega), adt 6 0 (by omega), adt 8 0 (by omega), sNV, sN0 0 (by omega), sN0 1 (by omega), sN0 2 (by omega), sIt 7 0 (by omega), sIt 8 0 (by omega), sIt 8 1 (by omega), sIt 8 2 (by omega)]
    rfl
  have rot : fSecret_rotate n (ad 13 s) sz (sI 7 0 + nI t) zv = some (g_up zv (ad 13 s) (cS ad' sI' sO' s)) := by
    unfold fSecret_rotate
    rw [eS]
    rcases hot with ⟨q1, q2, q3⟩ | ⟨w, q1, q2, q3⟩
    · rw [q2, q3, q_fR yS (k := 3) (r := (sO 0 s).map (ad 22)) rfl, Option.bind_some, q1]
      simp only [Option.map_none, g_n]
      rw [q_pF yS (Nat.le_of_ble_eq_true rfl), Option.bind_some]
      rfl
    · rw [q2, q3, q_fR yS (k := 3) (r := (sO 0 s).map (ad 22)) rfl, Option.bind_some, q1]
      simp only [Option.map_some, g_n, Option.bind_some]
      rw [q_pF yS (Nat.le_of_ble_eq_true rfl), Option.bind_some, q_pF q_up (Nat.le_of_ble_eq_true rfl), Option.bind_some, q_uu, q_pF q_up (Nat.le_of_ble_eq_true rfl), Option.bind_some, q_uu]
      rfl
  have x0 : (g_nw (G, sz) (.inr (1, [.int 0, .null, .null, .null]))).1 (ad 0 0) = some (cM ad sI sN) := (q_nn (z := (G, sz)) lt0).trans hm
  have hC2 : C1 (g_up (g_up zv (ad 13 s) (cS ad' sI' sO' s)) (ad 0 0) (cM ad' sI' sN')) ad' ce' sI' sO' sL' sN' au := by
    have := hC'
    rw [e13, e00] at this
    exact this
  refine ⟨_, ad', ce', ?_, ?_, e00, adt 6 0 (by omega), hC2⟩
  · rw [q_bp q_nwO, q_fI x0 (k := 9) (x := nI (sN 0 3)) rfl, Option.bind_some, q_fR x0 (k := 4) (r := some (ad 6 0)) rfl, Option.bind_some, Option.bind_some, ← hVn, ev, Option.bind_some, q_fI y0 (k := 10) (x := sI 7 0) rfl, Option.bind_some, q_is yS, Option.bind_some, rot, Option.bind_some, q_fI hy0 (k := 9) (x := nI (sN 0 3)) rfl, Option.bind_some, q_pF hy0 (Nat.le_of_ble_eq_true rfl), Option.bind_some, ← hVn, nI_1, em, ← hVn]
  · exact sv
