section OPR
variable {z : gS} {ad : Nat → Nat → Nat} {ce : Nat → Nat → gE} {bd : Nat → Nat} {iv : Nat → Int32} {fa : Nat → Nat → Int32} {sI sI' : Nat → Nat → Int32} {sO sO' : Nat → Nat → Option Nat} {sL : Nat → Nat → List Int32} {sN : Nat → Nat → Nat} {au : List (Int32 × Int32 × Int32)}
theorem aud_full (hC : C1 z ad ce sI sO sL sN au) (n : Nat) (a b c : Int32) (h : 200 ≤ au.length) : fAudit_tell n (ad 4 0) a b c z = some z := by
  obtain ⟨h1, -, -, -, -, -, ⟨g1, g2, f, g3, g4⟩, -⟩ := id hC
  have ha := h1.get (t := 4) (i := 0) (by simp [cnC]) g1
  have hr := h1.get (t := 5) (i := 0) (by simp [cnC]) g3
  have e3 : nI au.length * 3 = nI (au.length * 3) := by rw [show (3 : Int32) = nI 3 from rfl, pk_mul]
  have e4 : nI (au.length * 3) + 2 = nI (au.length * 3 + 2) := by rw [show (2 : Int32) = nI 2 from rfl, nI_add]
  unfold fAudit_tell
  rw [q_fI ha (k := 1) (x := nI au.length) rfl, Option.bind_some, e3, if_neg (nI_pos (by omega)), q_fR ha (k := 0) (r := some (ad 5 0)) rfl, Option.bind_some, Option.bind_some, q_len hr, Option.bind_some, e4, if_neg (fun q => absurd ((nI_ltI (by omega) (by omega)).mp q) (by omega))]
theorem aud_tell (hC : C1 z ad ce sI sO sL sN au) (n : Nat) (a b c : Int32) (h : au.length < 200) : ∃ (z1 : gS) (ce' : Nat → Nat → gE), fAudit_tell n (ad 4 0) a b c z = some z1 ∧ C1 z1 ad ce' sI sO sL sN (au ++ [(a, b, c)]) ∧ z1.2 = z.2 := by
  obtain ⟨h1, h2, h3, h4, h5, h6, ⟨g1, g2, f, g3, g4⟩, h8, h9⟩ := id hC
  have ha := h1.get (t := 4) (i := 0) (by simp [cnC]) g1
  have hr := h1.get (t := 5) (i := 0) (by simp [cnC]) g3
  have e3 : nI au.length * 3 = nI (au.length * 3) := by rw [show (3 : Int32) = nI 3 from rfl, pk_mul]
  have e4 : nI (au.length * 3) + 2 = nI (au.length * 3 + 2) := by rw [show (2 : Int32) = nI 2 from rfl, nI_add]
  have hne : ad 4 0 ≠ ad 5 0 := h1.ne (by simp [cnC]) (by simp [cnC]) (by omega)
  unfold fAudit_tell
  rw [q_fI ha (k := 1) (x := nI au.length) rfl, Option.bind_some, e3, if_neg (nI_pos (by omega)), q_fR ha (k := 0) (r := some (ad 5 0)) rfl, Option.bind_some, Option.bind_some, q_len hr, Option.bind_some, e4, if_pos ((nI_ltI (by omega) (by omega)).mpr (by omega)), Option.bind_some, Option.bind_some, q_stI hr (by omega) (by omega), Option.bind_some]
  have r1 := h1.set (t := 5) (i := 0) (by simp [cnC]) (.inl (.int, 600, .inl (upd f (au.length * 3) a)))
  have ha1 := r1.get (t := 4) (i := 0) (by simp [cnC]) ((ru_t _ _ (by omega)).trans g1)
  have hr1 := r1.get (t := 5) (i := 0) (by simp [cnC]) (ru_s _ _ _ _)
  rw [q_fR ha1 (k := 0) (r := some (ad 5 0)) rfl, Option.bind_some, Option.bind_some, nI_1, q_stI hr1 (by omega) (by omega), Option.bind_some]
  have r2 := r1.set (t := 5) (i := 0) (by simp [cnC]) (.inl (.int, 600, .inl (upd (upd f (au.length * 3) a) (au.length * 3 + 1) b)))
  have ha2 := r2.get (t := 4) (i := 0) (by simp [cnC]) ((ru_t _ _ (by omega)).trans ((ru_t _ _ (by omega)).trans g1))
  have hr2 := r2.get (t := 5) (i := 0) (by simp [cnC]) (ru_s _ _ _ _)
  rw [q_fR ha2 (k := 0) (r := some (ad 5 0)) rfl, Option.bind_some, Option.bind_some, q_stI hr2 (by omega) (by omega), Option.bind_some]
  have r3 := r2.set (t := 5) (i := 0) (by simp [cnC]) (.inl (.int, 600, .inl (upd (upd (upd f (au.length * 3) a) (au.length * 3 + 1) b) (au.length * 3 + 2) c)))
  have ha3 := r3.get (t := 4) (i := 0) (by simp [cnC]) ((ru_t _ _ (by omega)).trans ((ru_t _ _ (by omega)).trans ((ru_t _ _ (by omega)).trans g1)))
  rw [q_fI ha3 (k := 1) (x := nI au.length) rfl, Option.bind_some, q_pF ha3 (Nat.le_of_ble_eq_true rfl), Option.bind_some, nI_1]
  have r4 := r3.set (t := 4) (i := 0) (by simp [cnC]) (.inr (6, [.ref (ad 5 0), .int (nI (au.length + 1))]))
  have k : ∀ t i (q1 q2 q3 q4 : gE), t ≠ 4 → t ≠ 5 → ru (ru (ru (ru ce 5 0 q1) 5 0 q2) 5 0 q3) 4 0 q4 t i = ce t i := fun t i q1 q2 q3 q4 u v => by rw [ru_t _ _ u, ru_t _ _ v, ru_t _ _ v, ru_t _ _ v]
  refine ⟨_, _, rfl, ⟨r4, (k _ _ _ _ _ _ (by omega) (by omega)).trans h2, h3.cg rfl (k _ _ _ _ _ _ (by omega) (by omega)) (fun i _ => k _ _ _ _ _ _ (by omega) (by omega)) (fun _ _ => rfl) (fun i _ => rfl), h4.cg rfl (fun t v _ _ _ => ⟨k _ _ _ _ _ _ (by omega) (by omega), rfl⟩) (fun v _ => rfl), h5.cg rfl (k _ _ _ _ _ _ (by omega) (by omega)) (fun t i _ _ _ => ⟨k _ _ _ _ _ _ (by omega) (by omega), rfl⟩) (fun _ _ _ _ => rfl) (fun i _ => ⟨rfl, rfl, rfl, rfl, rfl⟩), h6.cg rfl (k _ _ _ _ _ _ (by omega) (by omega)) (fun i _ => ⟨k _ _ _ _ _ _ (by omega) (by omega), rfl⟩) (fun i _ => ⟨rfl, rfl, rfl⟩), ?_, h8.keep rfl (k _ _ _ _ _ _ (by omega) (by omega)) (k _ _ _ _ _ _ (by omega) (by omega)), h9.cg (fun t _ _ => ⟨k _ _ _ _ _ _ (by omega) (by omega), rfl⟩)⟩, rfl⟩
  refine ⟨by rw [ru_s]; simp, by simp; omega, _, by rw [ru_t _ _ (by omega), ru_s], fun i hi => ?_⟩
  simp at hi
  by_cases e : i = au.length
  · subst e
    rw [List.getElem?_append_right (Nat.le_refl _), Nat.sub_self, Nat.mul_comm]
    simp [upd]
  · rw [List.getElem?_append_left (by omega), g4 i (by omega)]
    have n1 : 3 * i ≠ au.length * 3 := by omega
    have n2 : 3 * i ≠ au.length * 3 + 1 := by omega
    have n3 : 3 * i ≠ au.length * 3 + 2 := by omega
    have n4 : 3 * i + 1 ≠ au.length * 3 := by omega
    have n5 : 3 * i + 1 ≠ au.length * 3 + 1 := by omega
    have n6 : 3 * i + 1 ≠ au.length * 3 + 2 := by omega
    have n7 : 3 * i + 2 ≠ au.length * 3 := by omega
    have n8 : 3 * i + 2 ≠ au.length * 3 + 1 := by omega
    have n9 : 3 * i + 2 ≠ au.length * 3 + 2 := by omega
    simp [upd, n1, n2, n3, n4, n5, n6, n7, n8, n9]
end OPR
theorem op_read (n x y : Nat) : OP_read n x y (Sim x y) := by
  intro G1 G2 sz v0 v1 v2 hS
  obtain ⟨ad, ce, bd, iv, fa, sI, sO, sL, sN, au, rfl, rfl, hC, hR, hRS, hV⟩ := hS
  obtain ⟨z2, e2, hR2, hz2⟩ := r_p0 hR 0
  have hm := c_m hC
  have hRS0 := hRS.code 0
  rcases kept_cases hC hR2 hRS0 hV n v0 v1 with ⟨i, s, v, hi, hs, hv, rfl, rfl, -, k1, k2⟩ | ⟨k1, k2⟩
  · have hvs := hC.val hv
    obtain ⟨g1, g2, -⟩ := hC.2.2.2.2.2.2.1
    have hnV := hC.nV
    have hau := hC.1.get (t := 4) (i := 0) (by simp [cnC]) g1
    have hne : ¬ nI v = -1 := fun q => absurd (show nI v < 0 by rw [q]; decide) (nI_pos (by omega))
    obtain ⟨-, -, -, dv, -⟩ := id hV
    obtain ⟨dl1, dl2, -⟩ := dv v hv
    -- the end, on a state of the reference whose arrays of values are these
    have J : ∀ (z3 : gS) (iv3 : Nat → Int32) (fa3 : Nat → Nat → Int32), R2 z3 bd iv3 fa3 → fa3 8 = fa 8 → fa3 9 = fa 9 → fRef_read_J74 n (bd 0) v2 (nI v) z3 = some (tAt (sL 0 v) v2, z3) := by
      intro z3 iv3 fa3 h3 q8 q9
      obtain ⟨-, b1, -⟩ := id hRS
      obtain ⟨-, f8, f9⟩ := b1 v hv
      unfold fRef_read_J74
      by_cases c0 : v2 < 0
      · rw [if_pos c0]
        unfold tAt
        rw [if_pos c0]
      · obtain ⟨j, hj, rfl⟩ := nI_of c0
        rw [if_neg c0, r_R h3 8 rfl, Option.bind_some, Option.bind_some, r_ld h3 (k := 8) (ty := .int) (by unfold aK; omega) rfl (by show v < 24; omega), q8, f8, Option.bind_some, tAt_nI hj]
        by_cases c1 : j < (sL 0 v).length
        · have e5 : (12 : Int32) * nI v + nI j = nI (12 * v + j) := by
            rw [show (12 : Int32) = nI 12 from rfl, pk_mul, nI_add]
          rw [if_pos ((nI_ltI hj (by omega)).mpr c1), r_R h3 9 rfl, Option.bind_some, Option.bind_some, e5, r_ld h3 (k := 9) (ty := .int) (by unfold aK; omega) rfl (by show _ < 288; omega), Option.bind_some, q9, f9 j c1]
          rfl
        · rw [if_neg (fun q => c1 ((nI_ltI hj (by omega)).mp q)), List.getElem?_eq_none (by omega)]
          rfl
    have hcl : g_fI (G1, sz) (ad 0 0) 8 10 = some (sI 7 0) := q_fI hm (k := 10) (x := sI 7 0) rfl
    have h6 : g_fI z2 (bd 0) 9 6 = some (nI au.length) := by rw [r_I hR2 6 rfl]; exact congrArg some hRS.1.2.2.2.2.2.1
    have A : ∀ (z1 : gS) (ce' : Nat → Nat → gE) (au' : List (Int32 × Int32 × Int32)), fAudit_tell n (ad 4 0) (nI i) (nI s) (sI 7 0) (G1, sz) = some z1 → C1 z1 ad ce' sI sO sL sN au' → fMain_read n (ad 0 0) (nI i) (nI s) v2 (G1, sz) = some (tAt (sL 0 v) v2, z1) := by
      intro z1 ce' au' q hC'
      have ht := hC'.vt0 hv
      unfold fMain_read
      rw [q_is hm, Option.bind_some, q_bp k1]
      show (g_fR (G1, sz) (ad 0 0) 8 3).bind _ = _
      rw [q_fR hm (k := 3) (r := some (ad 4 0)) rfl, Option.bind_some, hcl, Option.bind_some, Option.bind_some, q_is hau, Option.bind_some, q, Option.bind_some, q_fR (hC'.val hv) (k := 1) (r := some (ad 23 v)) rfl, Option.bind_some, Option.bind_some, q_is ht.1, Option.bind_some, q_bp (tx_at ht n v2)]
    by_cases c0 : au.length < 200
    · obtain ⟨z1, ce', e1, hC', s1⟩ := aud_tell hC n (nI i) (nI s) (sI 7 0) c0
      obtain ⟨z3, e3, hR3, hz3⟩ := r_st hR2 (k := 27) (ty := .int) (by unfold aK; omega) rfl (j := au.length) (by show _ < 200; omega) (nI i)
      obtain ⟨z4, e4, hR4, hz4⟩ := r_st hR3 (k := 28) (ty := .int) (by unfold aK; omega) rfl (j := au.length) (by show _ < 200; omega) (nI s)
      obtain ⟨z5, e5, hR5, hz5⟩ := r_st hR4 (k := 29) (ty := .int) (by unfold aK; omega) rfl (j := au.length) (by show _ < 200; omega) (sI 7 0)
      obtain ⟨z6, e6, hR6, hz6⟩ := r_p6 hR5 (nI au.length + 1)
      have x3 : g_fI z3 (bd 0) 9 6 = some (nI au.length) := by rw [r_I hR3 6 rfl]; exact congrArg some hRS.1.2.2.2.2.2.1
      have x4 : g_fI z4 (bd 0) 9 6 = some (nI au.length) := by rw [r_I hR4 6 rfl]; exact congrArg some hRS.1.2.2.2.2.2.1
      have x5 : g_fI z5 (bd 0) 9 6 = some (nI au.length) := by rw [r_I hR5 6 rfl]; exact congrArg some hRS.1.2.2.2.2.2.1
      have y4 : g_fI z4 (bd 0) 9 1 = some (sI 7 0) := by rw [r_I hR4 1 rfl]; exact congrArg some hRS.1.1
      have B : fRef_read n (bd 0) (nI i) (nI s) v2 (G2, z1.2) = some (tAt (sL 0 v) v2, z6) := by
        rw [s1]
        unfold fRef_read
        rw [e2, Option.bind_some, r_is hR2, Option.bind_some, q_bp k2, if_neg hne, h6, Option.bind_some, if_neg (show ¬ 200 ≤ nI au.length from fun q => absurd ((nI_leI (a := 200) (by omega) (by omega)).mp q) (by omega)), r_R hR2 27 rfl, Option.bind_some, Option.bind_some, Option.bind_some, e3, Option.bind_some, r_R hR3 28 rfl, Option.bind_some, x3, Option.bind_some, Option.bind_some, e4, Option.bind_some, r_R hR4 29 rfl, Option.bind_some, x4, Option.bind_some, y4, Option.bind_some, Option.bind_some, e5, Option.bind_some, x5, Option.bind_some, e6, Option.bind_some]
        exact J z6 _ _ hR6 rfl rfl
      refine ⟨_, _, _, A z1 ce' _ e1 hC', B, sim_mk rfl rfl hC' hR6 ?_ ?_ hV⟩
      · rw [hz6, hz5, hz4, hz3, hz2, s1]
      · obtain ⟨⟨a1, a2, a3, a4, a5, a6, a7, a8, a9⟩, b1, b2, b3, b4, b5, b6, b7, b8⟩ := hRS
        refine ⟨⟨a1, a2, a3, a4, a5, ?_, a7, a8, a9⟩, b1, b2, b3, b4, b5, b6, fun k hk => ?_, b8⟩
        · show nI au.length + 1 = _
          rw [nI_1]
          simp
        · simp at hk
          by_cases e : k = au.length
          · subst e
            rw [List.getElem?_append_right (Nat.le_refl _), Nat.sub_self]
            simp [ru]
          · rw [List.getElem?_append_left (by omega), b7 k (by omega)]
            simp [ru, e]
    · have e1 := aud_full hC n (nI i) (nI s) (sI 7 0) (by omega)
      have B : fRef_read n (bd 0) (nI i) (nI s) v2 (G2, sz) = some (tAt (sL 0 v) v2, z2) := by
        unfold fRef_read
        rw [e2, Option.bind_some, r_is hR2, Option.bind_some, q_bp k2, if_neg hne, h6, Option.bind_some, if_pos (show 200 ≤ nI au.length from (nI_leI (a := 200) (by omega) (by omega)).mpr (by omega))]
        exact J z2 _ _ hR2 rfl rfl
      exact ⟨_, _, _, A _ _ _ e1 hC, B, sim_mk rfl rfl hC hR2 hz2 hRS0 hV⟩
  · have A : fMain_read n (ad 0 0) v0 v1 v2 (G1, sz) = some (-1, (G1, sz)) := by
      unfold fMain_read
      rw [q_is hm, Option.bind_some, q_bp k1]
      rfl
    have B : fRef_read n (bd 0) v0 v1 v2 (G2, sz) = some (-1, z2) := by
      unfold fRef_read
      rw [e2, Option.bind_some, r_is hR2, Option.bind_some, q_bp k2, if_pos rfl]
    exact ⟨_, _, _, A, B, sim_mk rfl rfl hC hR2 hz2 hRS0 hV⟩
