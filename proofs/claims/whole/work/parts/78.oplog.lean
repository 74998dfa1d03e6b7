section OL
variable {z : gS} {ad : Nat → Nat → Nat} {ce : Nat → Nat → gE} {sI : Nat → Nat → Int32} {sO : Nat → Nat → Option Nat} {sL : Nat → Nat → List Int32} {sN : Nat → Nat → Nat} {au : List (Int32 × Int32 × Int32)} {es : List (Nat × Nat × Nat × Nat)} {i : Nat}
theorem c_come (hC : C1 z ad ce sI sO sL sN au) (hV : VS sI sO sL sN) (hF : FR z ad es) (hE : EO sL sN es) (n : Nat) (hn : 1000 < n) (hi : i < sN 0 1) (hl : (sL 1 i).length + (sL 3 0).length ≤ 300) : ∃ (z1 : gS) (ce1 : Nat → Nat → gE), fLog_come n (ad 16 i) (ad 6 0) (ad 8 0) z = some z1 ∧ LG z1 ad ce1 sI sO sL sN au i (sI 5 i) (sL 1 i ++ sL 3 0) (cv (es.map (eT sL)) false (sL 1 i ++ sL 3 0) 300 (sN 1 i, sL 2 i, sN 2 i)) ∧ z1.2 = z.2 := by
  have h0 := lg_of hC i
  obtain ⟨p1, p2, p3, p4, p5, p6, p7, p8⟩ := hV.2.2.2.2.2.1 i hi
  have d3 := hV.2.2.1
  obtain ⟨z1, e1, t1, s1, o1⟩ := tx_addAll n (h0.ne0 hi (t := 17) (t' := 6) (by omega) (by omega) (by omega)).symm (h0.ne0 hi (t := 18) (t' := 7) (by omega) (by omega) (by omega)).symm n 0 (sL 1 i) z (hC.came hi) hC.tpx (by omega) (by omega) (by omega)
  rw [List.drop_zero, map_tC d3] at t1
  rw [nI_0] at e1
  have hlen : (sL 1 i ++ sL 3 0).length ≤ 300 := by rw [List.length_append]; omega
  obtain ⟨ce1, h1⟩ := h0.upd hi (z1 := z1) (b' := sI 5 i) (xs' := sL 1 i ++ sL 3 0) (s' := (sN 1 i, sL 2 i, sN 2 i)) s1 ((o1 _ (h0.ne hi (by omega) (by omega) (by omega) (by omega) (by omega)) (h0.ne hi (by omega) (by omega) (by omega) (by omega) (by omega))).trans (h0.log hi)) t1 ((h0.told hi).keep (o1 _ (h0.ne hi (by omega) (by omega) (by omega) (by omega) (by omega)) (h0.ne hi (by omega) (by omega) (by omega) (by omega) (by omega))) (o1 _ (h0.ne hi (by omega) (by omega) (by omega) (by omega) (by omega)) (h0.ne hi (by omega) (by omega) (by omega) (by omega) (by omega)))) (fun q _ q1 q2 _ _ => o1 q q1 q2)
  have F1 : FR z1 ad es := hF.keep (fun t a1 a2 => o1 _ (h0.ne0 hi (by omega) (by omega) (by omega)) (h0.ne0 hi (by omega) (by omega) (by omega)))
  obtain ⟨z2, ce2, e2, h2, F2, s2⟩ := c_cover hi hE n hn hlen (fun x hm => (List.mem_append.mp hm).elim (p3 x) (d3 x)) false 0 (by simp) 300 n 0 (sN 1 i, sL 2 i, sN 2 i) z1 ce1 (by show _ ≤ sN 1 i + 300; omega) (by omega) (Nat.zero_le _) (hV.cvi hi _) h1 F1
  refine ⟨z2, ce2, ?_, h2, s2.trans s1⟩
  unfold fLog_come
  rw [q_fR (h0.log hi) (k := 0) (r := some (ad 17 i)) rfl, Option.bind_some, Option.bind_some, q_is (hC.came hi).1, Option.bind_some]
  unfold fText_addAll
  rw [e1, Option.bind_some, q_is (h1.log hi), Option.bind_some]
  unfold fLog_cover
  rw [nI_0] at e2
  rw [e2, Option.bind_some]
theorem LG.tp {b : Int32} {xs : List Int32} {s : Nat × List Int32 × Nat} (h : LG z ad ce sI sO sL sN au i b xs s) : tx z (ad 6 0) (ad 7 0) 300 (sL 3 0) := by
  have := C1.tpx h
  rw [ru_t _ _ (by omega), ru_t _ _ (by omega)] at this
  exact this
theorem LG.m {b : Int32} {xs : List Int32} {s : Nat × List Int32 × Nat} (h : LG z ad ce sI sO sL sN au i b xs s) : z.1 (ad 0 0) = some (cM ad (ru sI 5 i b) (ru (ru sN 1 i s.1) 2 i s.2.2)) := c_m h
end OL
theorem op_log (n x y : Nat) (hn : 1000 < n) : OP_log n x y (Sim x y) := by
  intro G1 G2 sz v0 hS
  obtain ⟨ad, ce, bd, iv, fa, sI, sO, sL, sN, au, rfl, rfl, hC, hR, hRS, hV⟩ := hS
  have hm := c_m hC
  have hnS := hC.nS
  have hnV := hC.nV
  have hnT := hC.nT
  have ht := hC.tpx
  have hlen : (sL 3 0).length ≤ 300 := ht.2.1
  obtain ⟨y1, e1, hY1, sY1⟩ := r_p0 hR 0
  obtain ⟨y3, e3, hY3, sY3⟩ := r_p18 hY1 0
  have i4 : (up1 (up1 iv 0 0) 18 0) 4 = nI (sN 0 1) := hRS.1.2.2.2.1
  have i18 : g_fI y1 (bd 0) 9 18 = some (nI (sL 3 0).length) := by rw [r_I hY1 18 rfl]; exact congrArg some hRS.1.2.2.2.2.2.2.1
  have RB : ∀ R, (g_bp (fRef_isStep n (bd 0) v0 y3) fun v_6 z_5 => if v_6 = 0 then some (-1, z_5) else (g_fR z_5 (bd 0) 9 26).bind fun r_8 => r_8.bind fun a_9 => (g_ldI z_5 .boolean a_9 v0).bind fun v_10 => if v_10 = 0 then ((g_fR z_5 (bd 0) 9 21).bind fun r_12 => r_12.bind fun a_13 => (g_ldI z_5 .int a_13 v0).bind fun v_14 => if (v_14 + nI (sL 3 0).length) ≤ 300 then fRef_log_L50 n n (bd 0) v0 (nI (sL 3 0).length) 0 z_5 else some (-1, z_5)) else some (-1, z_5)) = R → fRef_log n (bd 0) v0 (G2, sz) = R := by
    intro R q
    unfold fRef_log
    rw [e1, Option.bind_some, i18, Option.bind_some, e3, Option.bind_some, r_is hY3, Option.bind_some]
    exact q
  -- the tape is cleared at the end
  have fin : ∀ (code : Int32) (r : Option Nat) (z5 : gS) (ce5 : Nat → Nat → gE) (sI5 : Nat → Nat → Int32) (sL5 : Nat → Nat → List Int32) (sN5 : Nat → Nat → Nat), fMain_findStep n (ad 0 0) v0 (G1, sz) = some (r, (G1, sz)) → fMain_logFromTape n (ad 0 0) r (G1, sz) = some (code, z5) → C1 z5 ad ce5 sI5 sO sL5 sN5 au → ∃ (z6 : gS) (ce6 : Nat → Nat → gE), fMain_log n (ad 0 0) v0 (G1, sz) = some (code, z6) ∧ C1 z6 ad ce6 sI5 sO (ru sL5 3 0 []) sN5 au ∧ z6.2 = z5.2 := by
    intro code r z5 ce5 sI5 sL5 sN5 q1 q2 h5
    have t5 := h5.tpx
    obtain ⟨z6, e6, t6, s6, o6⟩ := tx_clear t5 n
    obtain ⟨ce6, hC6⟩ := h5.tape t6 s6 o6
    refine ⟨z6, ce6, ?_, hC6, s6⟩
    unfold fMain_log
    rw [q_is hm, Option.bind_some, q_bp q1, q_is hm, Option.bind_some, q_bp q2, q_fR (c_m h5) (k := 4) (r := some (ad 6 0)) rfl, Option.bind_some, Option.bind_some, q_is t5.1, Option.bind_some, e6, Option.bind_some]
  have hRS3 : RS (up1 (up1 iv 0 0) 18 0) fa sI sO (ru sL 3 0 []) sN au := (hRS.code 0).clear
  have fail : ∀ (r : Option Nat), fMain_findStep n (ad 0 0) v0 (G1, sz) = some (r, (G1, sz)) → fMain_logFromTape n (ad 0 0) r (G1, sz) = some (-1, (G1, sz)) → fRef_log n (bd 0) v0 (G2, sz) = some (-1, y3) → ∃ (r : Int32) (z1 z2 : gS), fMain_log n (ad 0 0) v0 (G1, sz) = some (r, z1) ∧ fRef_log n (bd 0) v0 (G2, z1.2) = some (r, z2) ∧ Sim (ad 0 0) (bd 0) z1.1 z2.1 z2.2 := by
    intro r q1 q2 q3
    obtain ⟨z6, ce6, e6, hC6, s6⟩ := fin (-1) r (G1, sz) ce sI sL sN q1 q2 hC
    exact ⟨-1, z6, y3, e6, by rw [s6]; exact q3, sim_mk rfl rfl hC6 hY3 (by rw [s6, sY3, sY1]) hRS3 hV.clear⟩
  rcases i_ix v0 (n := sN 0 1) (by omega) with h | ⟨i, hi, rfl⟩
  · exact fail none (ft_none hC n h) rfl (RB _ (by rw [q_bp (it_0 hY3 i4 n h), if_pos rfl]))
  have hf := ft_some hC n hi
  have hst := hC.stp hi
  have hlg := hC.log hi
  have hcm := hC.came hi
  obtain ⟨-, -, -, -, -, b5, -⟩ := id hRS
  obtain ⟨p1, p2, p3, p4, p5, p6, p7, p8⟩ := b5 i hi
  obtain ⟨d1, d2, d3, d4, d5, d6, d7, d8⟩ := hV.2.2.2.2.2.1 i hi
  have pre : ∀ R, (g_bp (fLog_takes n (ad 16 i) (nI (sL 3 0).length) (G1, sz)) fun v_11 z_10 => if v_11 = 0 then some ((-1 : Int32), z_10) else (g_fR z_10 (ad 0 0) 8 4).bind fun r_13 => r_13.bind fun a_14 => (g_is z_10 a_14 0).bind fun _ => g_bp (fText_length n a_14 z_10) fun v_17 z_16 => if v_17 ≤ 0 then ((g_fR z_16 (ad 0 0) 8 4).bind fun r_19 => r_19.bind fun a_20 => (g_is z_16 a_20 0).bind fun _ => g_bp (fText_length n a_20 z_16) fun v_23 z_22 => some (v_23, z_22)) else ((g_is z_16 (ad 0 0) 8).bind fun _ => (fMain_gatherForms n (ad 0 0) z_16).bind fun z_25 => (g_fR z_25 (ad 14 i) 4 1).bind fun r_26 => (g_fR z_25 (ad 0 0) 8 4).bind fun r_27 => (g_fR z_25 (ad 0 0) 8 5).bind fun r_28 => r_28.bind fun a_29 => r_27.bind fun a_30 => r_26.bind fun a_31 => (g_is z_25 a_31 3).bind fun _ => (fLog_come n a_31 a_30 a_29 z_25).bind fun z_33 => (g_fR z_33 (ad 0 0) 8 4).bind fun r_34 => r_34.bind fun a_35 => (g_is z_33 a_35 0).bind fun _ => g_bp (fText_length n a_35 z_33) fun v_38 z_37 => some (v_38, z_37))) = R → fMain_logFromTape n (ad 0 0) (some (ad 14 i)) (G1, sz) = R := by
    intro R q
    unfold fMain_logFromTape
    simp only [g_n]
    rw [q_fR hst (k := 1) (r := some (ad 16 i)) rfl, Option.bind_some, q_fR hm (k := 4) (r := some (ad 6 0)) rfl, Option.bind_some, Option.bind_some, q_is ht.1, Option.bind_some, q_bp (tx_len ht n), Option.bind_some, q_is hlg, Option.bind_some]
    exact q
  have RB2 : ∀ R, (if sI 5 i = 0 then (if nI ((sL 1 i).length + (sL 3 0).length) ≤ 300 then fRef_log_L50 n n (bd 0) (nI i) (nI (sL 3 0).length) 0 y3 else some (-1, y3)) else some (-1, y3)) = R → fRef_log n (bd 0) (nI i) (G2, sz) = R := by
    intro R q
    refine RB R ?_
    rw [q_bp (it_1 hY3 i4 n hi hnT), if_neg (by decide), r_R hY3 26 rfl, Option.bind_some, Option.bind_some, r_ld hY3 (k := 26) (ty := .boolean) (by unfold aK; omega) rfl (by show _ < 12; omega), p8, Option.bind_some]
    by_cases c0 : sI 5 i = 0
    · rw [if_pos c0] at q ⊢
      rw [r_R hY3 21 rfl, Option.bind_some, Option.bind_some, r_ld hY3 (k := 21) (ty := .int) (by unfold aK; omega) rfl (by show _ < 12; omega), p3, Option.bind_some, nI_add]
      exact q
    · rw [if_neg c0] at q ⊢
      exact q
  by_cases c0 : sI 5 i = 0
  case neg =>
    have tk : fLog_takes n (ad 16 i) (nI (sL 3 0).length) (G1, sz) = some (0, (G1, sz)) := by
      unfold fLog_takes
      rw [q_fI hlg (k := 4) (x := sI 5 i) rfl, Option.bind_some, if_neg c0]
    exact fail _ hf (pre _ (by rw [q_bp tk, if_pos rfl])) (RB2 _ (by rw [if_neg c0]))
  by_cases c1 : (sL 1 i).length + (sL 3 0).length ≤ 300
  case neg =>
    have tk : fLog_takes n (ad 16 i) (nI (sL 3 0).length) (G1, sz) = some (0, (G1, sz)) := by
      unfold fLog_takes
      rw [q_fI hlg (k := 4) (x := sI 5 i) rfl, Option.bind_some, if_pos c0, q_fR hlg (k := 0) (r := some (ad 17 i)) rfl, Option.bind_some, Option.bind_some, q_is hcm.1, Option.bind_some, q_bp (tx_len hcm n), show (300 : Int32) = nI 300 from rfl, pk_sub (by omega), if_pos ((nI_ltI (by omega) (by omega)).mpr (by omega))]
    exact fail _ hf (pre _ (by rw [q_bp tk, if_pos rfl])) (RB2 _ (by rw [if_pos c0, if_neg (show ¬ nI _ ≤ 300 from fun q => c1 ((nI_leI (b := 300) (by omega) (by omega)).mp q))]))
  have tk : fLog_takes n (ad 16 i) (nI (sL 3 0).length) (G1, sz) = some (1, (G1, sz)) := by
    unfold fLog_takes
    rw [q_fI hlg (k := 4) (x := sI 5 i) rfl, Option.bind_some, if_pos c0, q_fR hlg (k := 0) (r := some (ad 17 i)) rfl, Option.bind_some, Option.bind_some, q_is hcm.1, Option.bind_some, q_bp (tx_len hcm n), show (300 : Int32) = nI 300 from rfl, pk_sub (by omega), if_neg (fun q => absurd ((nI_ltI (by omega) (by omega)).mp q) (by omega))]
  have r300 : nI ((sL 1 i).length + (sL 3 0).length) ≤ 300 := (nI_leI (b := 300) (by omega) (by omega)).mpr c1
  have rl := r_log hV hnS hnV n hn (i := i) (xs := sL 1 i) (tp := sL 3 0) (bd := bd) (iv := up1 (up1 iv 0 0) 18 0) (by omega) c1 d3 hV.2.2.1 n 0 (sN 1 i, sL 2 i, sN 2 i) y3 fa (by omega) (by omega) (by rw [List.take_zero]; exact hV.cvi hi _) hY3 hRS.rv (by rw [List.take_zero, List.append_nil]; exact hRS.lrf hi) hRS.2.2.2.2.1
  obtain ⟨w1, fa1, a1, hW1, sW1, LW1, FW1⟩ := rl
  rw [nI_0] at a1
  have B : fRef_log n (bd 0) (nI i) (G2, sz) = some (nI (sL 3 0).length, w1) := RB2 _ (by rw [if_pos c0, if_pos r300]; exact a1)
  have hok : ∀ x ∈ sL 1 i ++ sL 3 0, cOK x := fun x hm => (List.mem_append.mp hm).elim (d3 x) (hV.2.2.1 x)
  by_cases c2 : (sL 3 0).length = 0
  · have em : sL 3 0 = [] := List.eq_nil_of_length_eq_zero c2
    have lft : fMain_logFromTape n (ad 0 0) (some (ad 14 i)) (G1, sz) = some (nI (sL 3 0).length, (G1, sz)) := by
      refine pre _ ?_
      rw [q_bp tk, if_neg (by decide), q_fR hm (k := 4) (r := some (ad 6 0)) rfl, Option.bind_some, Option.bind_some, q_is ht.1, Option.bind_some, q_bp (tx_len ht n), if_pos (by rw [c2]; decide), q_fR hm (k := 4) (r := some (ad 6 0)) rfl, Option.bind_some, Option.bind_some, q_is ht.1, Option.bind_some, q_bp (tx_len ht n)]
    obtain ⟨z6, ce6, e6, hC6, s6⟩ := fin _ _ (G1, sz) ce sI sL sN hf lft hC
    rw [if_neg (by omega), em, List.append_nil] at LW1
    have hRS1 := hRS.logU hi hV.lens FW1 LW1
    rw [ru_id, ru_id, ru_id, ru_id] at hRS1
    exact ⟨_, z6, w1, e6, by rw [s6]; exact B, sim_mk rfl rfl hC6 hW1 (by rw [sW1, sY3, sY1, s6]) (hRS1.code 0).clear hV.clear⟩
  · obtain ⟨zg, cg, eg, hCg, hFg, hMg⟩ := fm_gather hC hV n hn
    have hE : EO sL sN (fLs sI sO (sN 0 0)) := fLs_ok hV
    obtain ⟨z5, ce5, e5, hG5, s5⟩ := c_come hCg hV hFg hE n hn hi c1
    have hmg := c_m hCg
    have lft : fMain_logFromTape n (ad 0 0) (some (ad 14 i)) (G1, sz) = some (nI (sL 3 0).length, z5) := by
      refine pre _ ?_
      rw [q_bp tk, if_neg (by decide), q_fR hm (k := 4) (r := some (ad 6 0)) rfl, Option.bind_some, Option.bind_some, q_is ht.1, Option.bind_some, q_bp (tx_len ht n), if_neg (nI_nle (by omega) (by omega)), q_is hm, Option.bind_some, eg, Option.bind_some, q_fR (hCg.stp hi) (k := 1) (r := some (ad 16 i)) rfl, Option.bind_some, q_fR hmg (k := 4) (r := some (ad 6 0)) rfl, Option.bind_some, q_fR hmg (k := 5) (r := some (ad 8 0)) rfl, Option.bind_some, Option.bind_some, Option.bind_some, Option.bind_some, q_is (hCg.log hi), Option.bind_some, e5, Option.bind_some, q_fR hG5.m (k := 4) (r := some (ad 6 0)) rfl, Option.bind_some, Option.bind_some, q_is hG5.tp.1, Option.bind_some, q_bp (tx_len hG5.tp n)]
    obtain ⟨z6, ce6, e6, hC6, s6⟩ := fin _ _ z5 ce5 _ _ _ hf lft hG5
    rw [if_pos (by omega)] at LW1
    have ecv := cv_len (last := false) (xs := sL 1 i ++ sL 3 0) (forms_same hV) 300 (sN 1 i, sL 2 i, sN 2 i)
    rw [← ecv] at LW1
    have hRS1 := hRS.logU hi hV.lens FW1 LW1
    have hA : ∀ f ∈ (fLs sI sO (sN 0 0)).map (eT sL), 4 ≤ f.length := fun f hf => by
      obtain ⟨e, h1, rfl⟩ := List.mem_map.mp hf
      exact (hE e h1).2.2.1
    have hV1 := hV.logU hi (b := sI 5 i) d1 (cv_inv (last := false) hA hok 300 _ (hV.cvi hi (sL 3 0))) hok (by rw [List.length_append]; omega)
    rw [ru_id] at hC6 hV1
    exact ⟨_, z6, w1, e6, by rw [s6, s5, hMg.1]; exact B, sim_mk rfl rfl hC6 hW1 (by rw [sW1, sY3, sY1, s6, s5, hMg.1]) (hRS1.code 0).clear hV1.clear⟩
