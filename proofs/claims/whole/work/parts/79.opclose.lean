theorem op_close (n x y : Nat) (hn : 1000 < n) : OP_close n x y (Sim x y) := by
  intro G1 G2 sz v0 hS
  obtain ⟨ad, ce, bd, iv, fa, sI, sO, sL, sN, au, rfl, rfl, hC, hR, hRS, hV⟩ := hS
  have hm := c_m hC
  have hnS := hC.nS
  have hnV := hC.nV
  have hnT := hC.nT
  obtain ⟨y1, e1, hY1, sY1⟩ := r_p0 hR 0
  have i4 : (up1 iv 0 0) 4 = nI (sN 0 1) := hRS.1.2.2.2.1
  have e3 : ∀ i : Nat, (300 : Int32) * nI i = nI (300 * i) := fun i => by rw [show (300 : Int32) = nI 300 from rfl, pk_mul]
  rcases i_ix v0 (n := sN 0 1) (by omega) with h | ⟨i, hi, rfl⟩
  · have A : fMain_close n (ad 0 0) v0 (G1, sz) = some (-1, (G1, sz)) := by
      unfold fMain_close
      rw [q_is hm, Option.bind_some, q_bp (ft_none hC n h)]
      rfl
    have B : fRef_close n (bd 0) v0 (G2, sz) = some (-1, y1) := by
      unfold fRef_close
      rw [e1, Option.bind_some, r_is hY1, Option.bind_some, q_bp (it_0 hY1 i4 n h), if_pos rfl]
    exact ⟨_, _, _, A, B, sim_mk rfl rfl hC hY1 sY1 (hRS.code 0) hV⟩
  have hf := ft_some hC n hi
  have hst := hC.stp hi
  have hlg := hC.log hi
  obtain ⟨-, -, -, -, -, b5, -⟩ := id hRS
  obtain ⟨p1, p2, p3, p4, p5, p6, p7, p8⟩ := b5 i hi
  obtain ⟨d1, d2, d3, d4, d5, d6, d7, d8⟩ := hV.2.2.2.2.2.1 i hi
  have pre : ∀ R, (if sI 5 i = 0 then ((g_is (G1, sz) (ad 0 0) 8).bind fun _ => (fMain_gatherForms n (ad 0 0) (G1, sz)).bind fun z_10 => (g_fR z_10 (ad 14 i) 4 1).bind fun r_11 => (g_fR z_10 (ad 0 0) 8 5).bind fun r_12 => r_12.bind fun a_13 => r_11.bind fun a_14 => (g_is z_10 a_14 3).bind fun _ => (fLog_end n a_14 a_13 z_10).bind fun z_16 => (g_fR z_16 (ad 14 i) 4 1).bind fun r_17 => r_17.bind fun a_18 => (g_fR z_16 a_18 3 1).bind fun r_19 => r_19.bind fun a_20 => (g_is z_16 a_20 0).bind fun _ => g_bp (fText_length n a_20 z_16) fun v_23 z_22 => some (v_23, z_22)) else some (-1, (G1, sz))) = R → fMain_close n (ad 0 0) (nI i) (G1, sz) = R := by
    intro R q
    unfold fMain_close
    rw [q_is hm, Option.bind_some, q_bp hf]
    simp only [g_n]
    rw [q_fR hst (k := 1) (r := some (ad 16 i)) rfl, Option.bind_some, Option.bind_some, q_fI hlg (k := 4) (x := sI 5 i) rfl, Option.bind_some]
    exact q
  by_cases c0 : sI 5 i = 0
  case neg =>
    have B : fRef_close n (bd 0) (nI i) (G2, sz) = some (-1, y1) := by
      unfold fRef_close
      rw [e1, Option.bind_some, r_is hY1, Option.bind_some, q_bp (it_1 hY1 i4 n hi hnT), if_neg (by decide), r_R hY1 26 rfl, Option.bind_some, Option.bind_some, r_ld hY1 (k := 26) (ty := .boolean) (by unfold aK; omega) rfl (by show _ < 12; omega), p8, Option.bind_some, if_neg c0]
    exact ⟨_, _, _, pre _ (by rw [if_neg c0]), B, sim_mk rfl rfl hC hY1 sY1 (hRS.code 0) hV⟩
  -- the class
  obtain ⟨zg, cg, eg, hCg, hFg, hMg⟩ := fm_gather hC hV n hn
  have hmg := c_m hCg
  have hE : EO sL sN (fLs sI sO (sN 0 0)) := fLs_ok hV
  have hI0 : cvI (sL 1 i) (sN 1 i, sL 2 i, sN 2 i) := by
    have := hV.cvi hi []
    rw [List.append_nil] at this
    exact this
  obtain ⟨z5, ce5, e5, hG5, F5, s5⟩ := c_cover hi hE n hn d6 d3 true 1 (by simp) 300 n 0 (sN 1 i, sL 2 i, sN 2 i) zg cg (by show _ ≤ sN 1 i + 300; omega) (by omega) (Nat.zero_le _) hI0 (lg_of hCg i) hFg
  obtain ⟨s, es⟩ : ∃ s, s = cv ((fLs sI sO (sN 0 0)).map (eT sL)) true (sL 1 i) 300 (sN 1 i, sL 2 i, sN 2 i) := ⟨_, rfl⟩
  rw [← es] at hG5
  obtain ⟨ce6, hG6, F6⟩ := lg_put hG5 hi F5 s.1 s.2.2 1
  obtain ⟨z6, ez6⟩ : ∃ z6, z6 = g_up z5 (ad 16 i) (.inr (3, [.ref (ad 17 i), .ref (ad 19 i), .int (nI s.1), .int (nI s.2.2), .int 1])) := ⟨_, rfl⟩
  rw [← ez6] at hG6
  have s6 : z6.2 = sz := by rw [ez6, q_u2, s5, hMg.1]
  have A : fMain_close n (ad 0 0) (nI i) (G1, sz) = some (nI s.2.1.length, z6) := by
    refine pre _ ?_
    have en : fLog_end n (ad 16 i) (ad 8 0) zg = some z6 := by
      unfold fLog_end
      rw [q_is (hCg.log hi), Option.bind_some]
      unfold fLog_cover
      rw [nI_0] at e5
      rw [e5, Option.bind_some, q_pF (hG5.log hi) (Nat.le_of_ble_eq_true rfl), Option.bind_some, ez6]
      rfl
    have hst6 := C1.stp hG6 (s := i) (by rw [lg_n]; exact hi)
    rw [if_pos c0, q_is hm, Option.bind_some, eg, Option.bind_some, q_fR (hCg.stp hi) (k := 1) (r := some (ad 16 i)) rfl, Option.bind_some, q_fR hmg (k := 5) (r := some (ad 8 0)) rfl, Option.bind_some, Option.bind_some, Option.bind_some, q_is (hCg.log hi), Option.bind_some, en, Option.bind_some, q_fR hst6 (k := 1) (r := some (ad 16 i)) rfl, Option.bind_some, Option.bind_some, q_fR (hG6.log hi) (k := 1) (r := some (ad 19 i)) rfl, Option.bind_some, Option.bind_some, q_is (hG6.told hi).1, Option.bind_some, q_bp (tx_len (hG6.told hi) n)]
  -- the reference
  obtain ⟨y2, e2, hY2, sY2⟩ := r_st hY1 (k := 26) (ty := .boolean) (by unfold aK; omega) rfl (j := i) (by show _ < 12; omega) 1
  have hRS2 : RS (up1 iv 0 0) (ru fa 26 i 1) (ru sI 5 i 1) sO sL sN au := (hRS.code 0).cls hi 1
  have hRV : RV (up1 iv 0 0) (ru fa 26 i 1) sI sO sL sN := RV.keep (fa := fa) hRS.rv (fun q hq => ru_f _ _ (by omega))
  obtain ⟨y3, fa3, e4, hY3, sY3, L3, F3⟩ := r_cover hV hnS hnV n hn (by omega) d6 d3 true 1 (by simp) 300 n (sN 1 i, sL 2 i, sN 2 i) y2 (ru fa 26 i 1) (by show _ ≤ sN 1 i + 300; omega) (by omega) hI0 hY2 hRV (hRS2.lrf hi)
  rw [← cv_len (last := true) (forms_same hV), ← es] at L3
  have B : fRef_close n (bd 0) (nI i) (G2, sz) = some (nI s.2.1.length, y3) := by
    have cov : fRef_cover n (bd 0) (nI i) 1 y2 = some y3 := by
      unfold fRef_cover
      rw [r_R hY2 21 rfl, Option.bind_some, Option.bind_some, r_ld hY2 (k := 21) (ty := .int) (by unfold aK; omega) rfl (by show _ < 12; omega), (hRS2.lrf hi).2.1, Option.bind_some, e3, nI_add]
      exact e4
    unfold fRef_close
    rw [e1, Option.bind_some, r_is hY1, Option.bind_some, q_bp (it_1 hY1 i4 n hi hnT), if_neg (by decide), r_R hY1 26 rfl, Option.bind_some, Option.bind_some, r_ld hY1 (k := 26) (ty := .boolean) (by unfold aK; omega) rfl (by show _ < 12; omega), p8, Option.bind_some, if_pos c0, Option.bind_some, Option.bind_some, show vp_nar .boolean 1 = 1 from by decide, e2, Option.bind_some, r_is hY2, Option.bind_some, cov, Option.bind_some, r_R hY3 24 rfl, Option.bind_some, Option.bind_some, r_ld hY3 (k := 24) (ty := .int) (by unfold aK; omega) rfl (by show _ < 12; omega), L3.2.2.2.2.1, Option.bind_some]
  have hRS3 := hRS2.logU hi hV.lens F3 L3
  have hA : ∀ f ∈ (fLs sI sO (sN 0 0)).map (eT sL), 4 ≤ f.length := fun f hf => by
    obtain ⟨e, h1, rfl⟩ := List.mem_map.mp hf
    exact (hE e h1).2.2.1
  have hIs : cvI (sL 1 i) s := by rw [es]; exact cv_inv (last := true) hA d3 300 _ hI0
  have hV3 := hV.logU hi (b := 1) (Or.inr rfl) hIs d3 d6
  exact ⟨_, z6, y3, A, by rw [s6]; exact B, sim_mk rfl rfl hG6 hY3 (by rw [sY3, sY2, sY1, s6]) hRS3 hV3⟩
