section OPG
variable {z : gS} {ad : Nat → Nat → Nat} {ce : Nat → Nat → gE} {bd : Nat → Nat} {iv : Nat → Int32} {fa : Nat → Nat → Int32} {sI sI' : Nat → Nat → Int32} {sO sO' : Nat → Nat → Option Nat} {sL : Nat → Nat → List Int32} {sN : Nat → Nat → Nat} {au : List (Int32 × Int32 × Int32)}
theorem C1.val (h : C1 z ad ce sI sO sL sN au) {v : Nat} (hv : v < sN 0 3) : z.1 (ad 22 v) = some (.inr (1, [.int (nI v), .ref (ad 23 v), .ref (ad 25 v), .ref (ad 27 v)])) := h.1.get (by simp [cnC]; exact hv) (h.2.2.2.1.2 v hv).1
theorem C1.vt0 (h : C1 z ad ce sI sO sL sN au) {v : Nat} (hv : v < sN 0 3) : tx z (ad 23 v) (ad 24 v) (sL 0 v).length (sL 0 v) := (h.2.2.2.1.2 v hv).2.1.tx h.1 (by simp [cnC]; exact hv) (by simp [cnC]; exact hv)
theorem C1.vt1 (h : C1 z ad ce sI sO sL sN au) {v : Nat} (hv : v < sN 0 3) : tx z (ad 25 v) (ad 26 v) (sL 0 v).length (sL 0 v).reverse := (h.2.2.2.1.2 v hv).2.2.1.tx h.1 (by simp [cnC]; exact hv) (by simp [cnC]; exact hv)
theorem C1.vt2 (h : C1 z ad ce sI sO sL sN au) {v : Nat} (hv : v < sN 0 3) : tx z (ad 27 v) (ad 28 v) (2 * (sL 0 v).length) (hexL (sL 0 v)) := (h.2.2.2.1.2 v hv).2.2.2.tx h.1 (by simp [cnC]; exact hv) (by simp [cnC]; exact hv)
/-- a secret's own cell changes -/
theorem C1.secU (h : C1 z ad ce sI sO sL sN au) {s : Nat} (hs : s < sN 0 0) (hI : ∀ t i, 5 ≤ t → sI' t i = sI t i) (hO : ∀ t i, 2 ≤ t → sO' t i = sO t i) (hi : ∀ i, i < sN 0 0 → i ≠ s → cS ad sI' sO' i = cS ad sI sO i) : C1 (g_up z (ad 13 s) (cS ad sI' sO' s)) ad (ru ce 13 s (cS ad sI' sO' s)) sI' sO' sL sN au := by
  obtain ⟨h1, h2, h3, h4, h5, h6, h7, h8, h9⟩ := h
  have k : ∀ t i, t ≠ 13 → ru ce 13 s (cS ad sI' sO' s) t i = ce t i := fun t i ht => ru_t _ _ ht
  refine ⟨h1.set (by simp [cnC]; exact hs) _, ?_, ?_, h4.cg rfl (fun t v _ _ _ => ⟨k _ _ (by omega), rfl⟩) (fun _ _ => rfl), h5.cg rfl (k _ _ (by omega)) (fun t i _ _ _ => ⟨k _ _ (by omega), rfl⟩) (fun i q _ _ => by rw [hO _ _ (by omega)]) (fun i _ => ⟨hI 5 i (by omega), rfl, rfl, rfl, rfl⟩), h6.cg rfl (k _ _ (by omega)) (fun i _ => ⟨k _ _ (by omega), rfl⟩) (fun i _ => ⟨rfl, rfl, hI 6 i (by omega)⟩), h7.cg (k _ _ (by omega)) (k _ _ (by omega)) rfl, h8.keep rfl (k _ _ (by omega)) (k _ _ (by omega)), h9.cg (fun t _ _ => ⟨k _ _ (by omega), rfl⟩)⟩
  · rw [k _ _ (by omega), h2]
    unfold cM
    rw [hI 7 0 (by omega), hI 8 0 (by omega), hI 8 1 (by omega), hI 8 2 (by omega)]
  · obtain ⟨g1, ⟨g, g2, g3⟩, g4⟩ := h3
    refine ⟨g1, ⟨g, (k _ _ (by omega)).trans g2, g3⟩, fun i hi' => ?_⟩
    by_cases e : i = s
    · subst e
      rw [ru_s]
    · rw [ru_i _ _ e, g4 i hi', hi i hi' e]
end OPG
theorem op_revoke (n x y : Nat) : OP_revoke n x y (Sim x y) := by
  intro G1 G2 sz v0 hS
  obtain ⟨ad, ce, bd, iv, fa, sI, sO, sL, sN, au, rfl, rfl, hC, hR, hRS, hV⟩ := hS
  obtain ⟨z2, e2, hR2, hz2⟩ := r_p0 hR 0
  have hm := c_m hC
  have hb := hC.nS
  have h2 : (up1 iv 0 0) 2 = nI (sN 0 0) := hRS.1.2.1
  rcases i_ix v0 (n := sN 0 0) (by omega) with h | ⟨s, hs, rfl⟩
  · have A : fMain_revoke n (ad 0 0) v0 (G1, sz) = some (0, (G1, sz)) := by
      unfold fMain_revoke
      rw [q_is hm, Option.bind_some, q_bp (fs_none hC n h)]
      rfl
    have B : fRef_revoke n (bd 0) v0 (G2, sz) = some (0, z2) := by
      unfold fRef_revoke
      rw [e2, Option.bind_some, r_is hR2, Option.bind_some, q_bp (is_0 hR2 h2 n h), if_pos rfl]
    exact ⟨_, _, _, A, B, sim_mk rfl rfl hC hR2 hz2 (hRS.code 0) hV⟩
  · obtain ⟨-, -, b2, -⟩ := id hRS
    obtain ⟨-, -, -, -, -, -, f16⟩ := b2 s hs
    have hse := hC.sec hs
    by_cases c0 : sI 4 s = 0
    · obtain ⟨z3, e3, hR3, hz3⟩ := r_st hR2 (k := 16) (ty := .boolean) (by unfold aK; omega) rfl (j := s) (by show s < 10; omega) 1
      have hC' := hC.secU (sI' := ru sI 4 s 1) (sO' := sO) hs (fun t i ht => ru_t _ _ (by omega)) (fun _ _ _ => rfl) (fun i _ hi => by simp [cS, ru, hi])
      have em : cS ad (ru sI 4 s 1) sO s = .inr (2, List.set [.int (sI 0 s), .int (sI 1 s), .int (sI 2 s), va_rf ((sO 0 s).map (ad 22)), va_rf ((sO 1 s).map (ad 22)), .int (sI 3 s), .int (sI 4 s)] 6 (.int 1)) := by simp [cS, ru]
      have A : fMain_revoke n (ad 0 0) (nI s) (G1, sz) = some (1, g_up (G1, sz) (ad 13 s) (cS ad (ru sI 4 s 1) sO s)) := by
        unfold fMain_revoke
        rw [q_is hm, Option.bind_some, q_bp (fs_some hC n hs)]
        show (g_fI (G1, sz) (ad 13 s) 2 6).bind _ = _
        rw [q_fI hse (k := 6) (x := sI 4 s) rfl, Option.bind_some, if_pos c0, q_pF hse (Nat.le_of_ble_eq_true rfl), Option.bind_some, em]
      have B : fRef_revoke n (bd 0) (nI s) (G2, sz) = some (1, z3) := by
        unfold fRef_revoke
        rw [e2, Option.bind_some, r_is hR2, Option.bind_some, q_bp (is_1 hR2 h2 n hs hb), if_neg (by decide), r_R hR2 16 rfl, Option.bind_some, Option.bind_some, r_ld hR2 (k := 16) (ty := .boolean) (by unfold aK; omega) rfl (by show s < 10; omega), Option.bind_some, if_pos (f16.trans c0), Option.bind_some, Option.bind_some, show vp_nar .boolean 1 = 1 from by decide, e3, Option.bind_some]
      refine ⟨_, _, _, A, B, sim_mk rfl rfl hC' hR3 (hz3.trans hz2) ?_ ?_⟩
      · obtain ⟨a, b1, b2, b3, b4, b5, b6, b7, b8⟩ := hRS
        refine ⟨a, b1, fun s' hs' => ?_, fun s' h1 h2 => ?_, b4, b5, b6, b7, b8⟩
        · obtain ⟨q1, q2, q3, q4, q5, q6, q7⟩ := b2 s' hs'
          refine ⟨q1, q2, q3, q4, q5, q6, ?_⟩
          by_cases e : s' = s
          · subst e
            rw [ru_s, ru_s]
          · rw [ru_i _ _ e, ru_i _ _ e]
            exact q7
        · rw [ru_i _ _ (show s' ≠ s by omega)]
          exact b3 s' h1 h2
      · obtain ⟨d1, d2, d3, d4, d5, d6, d7⟩ := hV
        refine ⟨d1, d2, d3, d4, fun s' hs' => ?_, d6, d7⟩
        obtain ⟨q1, q2, q3, q4⟩ := d5 s' hs'
        refine ⟨?_, q2, q3, q4⟩
        by_cases e : s' = s
        · subst e
          rw [ru_s]
          exact Or.inr rfl
        · rw [ru_i _ _ e]
          exact q1
    · have A : fMain_revoke n (ad 0 0) (nI s) (G1, sz) = some (0, (G1, sz)) := by
        unfold fMain_revoke
        rw [q_is hm, Option.bind_some, q_bp (fs_some hC n hs)]
        show (g_fI (G1, sz) (ad 13 s) 2 6).bind _ = _
        rw [q_fI hse (k := 6) (x := sI 4 s) rfl, Option.bind_some, if_neg c0]
      have B : fRef_revoke n (bd 0) (nI s) (G2, sz) = some (0, z2) := by
        unfold fRef_revoke
        rw [e2, Option.bind_some, r_is hR2, Option.bind_some, q_bp (is_1 hR2 h2 n hs hb), if_neg (by decide), r_R hR2 16 rfl, Option.bind_some, Option.bind_some, r_ld hR2 (k := 16) (ty := .boolean) (by unfold aK; omega) rfl (by show s < 10; omega), Option.bind_some, if_neg (fun q => c0 (f16.symm.trans q))]
      exact ⟨_, _, _, A, B, sim_mk rfl rfl hC hR2 hz2 (hRS.code 0) hV⟩
theorem op_audit (n x y : Nat) : OP_audit n x y (Sim x y) := by
  intro G1 G2 sz v0 v1 hS
  obtain ⟨ad, ce, bd, iv, fa, sI, sO, sL, sN, au, rfl, rfl, hC, hR, hRS, hV⟩ := hS
  obtain ⟨z2, e2, hR2, hz2⟩ := r_p0 hR 0
  have hm := c_m hC
  obtain ⟨h1, -, -, -, -, -, ⟨g1, g2, f, g3, g4⟩, -⟩ := id hC
  have ha := h1.get (t := 4) (i := 0) (by simp [cnC]) g1
  have hr := h1.get (t := 5) (i := 0) (by simp [cnC]) g3
  have h6 : g_fI z2 (bd 0) 9 6 = some (nI au.length) := by rw [r_I hR2 6 rfl]; exact congrArg some hRS.1.2.2.2.2.2.1
  have A0 : ∀ r, fAudit_cell n (ad 4 0) v0 v1 (G1, sz) = some (r, (G1, sz)) → fMain_audit n (ad 0 0) v0 v1 (G1, sz) = some (r, (G1, sz)) := fun r q => by
    unfold fMain_audit
    rw [q_fR hm (k := 3) (r := some (ad 4 0)) rfl, Option.bind_some, Option.bind_some, q_is ha, Option.bind_some, q_bp q]
  rcases i_ix v0 (n := au.length) (by omega) with h | ⟨i, hi, rfl⟩
  · have A : fMain_audit n (ad 0 0) v0 v1 (G1, sz) = some (-1, (G1, sz)) := A0 _ (by
      unfold fAudit_cell
      by_cases c0 : v0 < 0
      · rw [if_pos c0]
      · rw [if_neg c0, q_fI ha (k := 1) (x := nI au.length) rfl, Option.bind_some, if_pos (h.resolve_left c0)])
    have B : fRef_audit n (bd 0) v0 v1 (G2, sz) = some (-1, z2) := by
      unfold fRef_audit
      rw [e2, Option.bind_some]
      by_cases c0 : v0 < 0
      · rw [if_pos c0]
      · rw [if_neg c0, h6, Option.bind_some, if_neg (Int32.not_lt.mpr (h.resolve_left c0))]
    exact ⟨_, _, _, A, B, sim_mk rfl rfl hC hR2 hz2 (hRS.code 0) hV⟩
  · have e9 := g4 i hi
    obtain ⟨-, -, -, -, -, -, -, b7, -⟩ := id hRS
    have e8 := b7 i hi
    rw [e9] at e8
    simp only [Option.some.injEq, Prod.mk.injEq] at e8
    obtain ⟨q1, q2, q3⟩ := e8
    have c0 : ¬ nI i < 0 := nI_pos (by omega)
    have c1 : ¬ nI au.length ≤ nI i := fun q => absurd ((nI_leI (by omega) (by omega)).mp q) (by omega)
    have B : fRef_audit n (bd 0) (nI i) v1 (G2, sz) = some (if v1 = 0 then f (3 * i) else if v1 = 1 then f (3 * i + 1) else if v1 = 2 then f (3 * i + 2) else -1, z2) := by
      unfold fRef_audit
      rw [e2, Option.bind_some, if_neg c0, h6, Option.bind_some, if_pos ((nI_ltI (by omega) (by omega)).mpr hi), r_R hR2 27 rfl, r_R hR2 28 rfl, r_R hR2 29 rfl]
      simp only [Option.bind_some]
      rw [r_ld hR2 (k := 27) (ty := .int) (by unfold aK; omega) rfl (by show i < 200; omega), r_ld hR2 (k := 28) (ty := .int) (by unfold aK; omega) rfl (by show i < 200; omega), r_ld hR2 (k := 29) (ty := .int) (by unfold aK; omega) rfl (by show i < 200; omega), q1, q2, q3]
      repeat' split
      all_goals rfl
    have key : ∀ k : Nat, k < 3 → fAudit_cell n (ad 4 0) (nI i) (nI k) (G1, sz) = some (f (3 * i + k), (G1, sz)) := by
      intro k hk
      have e5 : nI i * 3 + nI k = nI (3 * i + k) := by
        rw [show (3 : Int32) = nI 3 from rfl, pk_mul, nI_add, Nat.mul_comm]
      unfold fAudit_cell
      rw [if_neg c0, q_fI ha (k := 1) (x := nI au.length) rfl, Option.bind_some, if_neg c1, if_neg (nI_pos (by omega)), if_pos (show nI k < 3 from (nI_ltI (b := 3) (by omega) (by omega)).mpr hk), e5, if_neg (nI_pos (by omega)), q_fR ha (k := 0) (r := some (ad 5 0)) rfl, Option.bind_some, Option.bind_some, q_len hr, Option.bind_some, if_pos ((nI_ltI (by omega) (by omega)).mpr (by omega)), Option.bind_some, Option.bind_some, q_ldI hr (by omega) (by omega), Option.bind_some]
    have A : fMain_audit n (ad 0 0) (nI i) v1 (G1, sz) = some (if v1 = 0 then f (3 * i) else if v1 = 1 then f (3 * i + 1) else if v1 = 2 then f (3 * i + 2) else -1, (G1, sz)) := by
      apply A0
      by_cases k0 : v1 = 0
      · rw [if_pos k0, k0]
        exact key 0 (by omega)
      · rw [if_neg k0]
        by_cases k1 : v1 = 1
        · rw [if_pos k1, k1]
          exact key 1 (by omega)
        · rw [if_neg k1]
          by_cases k2 : v1 = 2
          · rw [if_pos k2, k2]
            exact key 2 (by omega)
          · rw [if_neg k2]
            unfold fAudit_cell
            rw [if_neg c0, q_fI ha (k := 1) (x := nI au.length) rfl, Option.bind_some, if_neg c1]
            by_cases d0 : v1 < 0
            · rw [if_pos d0]
            · rw [if_neg d0]
              obtain ⟨j, hj, rfl⟩ := nI_of d0
              rw [if_neg (fun q => ?_)]
              have hj3 : j < 3 := (nI_ltI (b := 3) hj (by omega)).mp q
              have : j = 0 ∨ j = 1 ∨ j = 2 := by omega
              rcases this with rfl | rfl | rfl
              · exact k0 rfl
              · exact k1 rfl
              · exact k2 rfl
    exact ⟨_, _, _, A, B, sim_mk rfl rfl hC hR2 hz2 (hRS.code 0) hV⟩
