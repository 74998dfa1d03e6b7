theorem oI_eq {r : Option Nat} {v : Nat} (hv : v < 2 ^ 31) (hr : ∀ w, r = some w → w < 2 ^ 31) : nI v = oI r ↔ r = some v := by
  cases r with
  | none =>
    constructor
    · intro h
      have h1 : ¬ nI v < 0 := nI_pos hv
      rw [show nI v = (-1 : Int32) from h] at h1
      exact absurd (by decide) h1
    · intro h
      cases h
  | some w =>
    have hw := hr w rfl
    constructor
    · intro h
      rw [(nI_eq hv hw).mp h]
    · intro h
      cases h
      rfl
theorem oI_m1 {r : Option Nat} (hr : ∀ w, r = some w → w < 2 ^ 31) : oI r = -1 ↔ r = none := by
  cases r with
  | none => exact ⟨fun _ => rfl, fun _ => rfl⟩
  | some w =>
    constructor
    · intro h
      have h1 : ¬ nI w < 0 := nI_pos (hr w rfl)
      rw [show nI w = (-1 : Int32) from h] at h1
      exact absurd (by decide) h1
    · intro h
      cases h
theorem op_good (n x y : Nat) : OP_good n x y (Sim x y) := by
  intro G1 G2 sz v0 hS
  obtain ⟨ad, ce, bd, iv, fa, sI, sO, sL, sN, au, rfl, rfl, hC, hR, hRS, hV⟩ := hS
  obtain ⟨z2, e2, hR2, hz2⟩ := r_p0 hR 0
  have hm := c_m hC
  have hb := hC.nK
  have h5 : g_fI z2 (bd 0) 9 5 = some (nI (sN 0 2)) := by rw [r_I hR2 5 rfl]; exact congrArg some hRS.1.2.2.2.2.1
  have h1 : g_fI z2 (bd 0) 9 1 = some (sI 7 0) := by rw [r_I hR2 1 rfl]; exact congrArg some hRS.1.1
  have hnS := hC.nS
  have hnV := hC.nV
  rcases i_ix v0 (n := sN 0 2) (by omega) with h | ⟨k, hk, rfl⟩
  · have A : fMain_good n (ad 0 0) v0 (G1, sz) = some (0, (G1, sz)) := by
      unfold fMain_good
      by_cases c0 : v0 < 0
      · rw [if_pos c0]
      · rw [if_neg c0, q_fI hm (k := 8) (x := nI (sN 0 2)) rfl, Option.bind_some, if_pos (h.resolve_left c0)]
    have B : fRef_good n (bd 0) v0 (G2, sz) = some (0, z2) := by
      unfold fRef_good
      rw [e2, Option.bind_some]
      by_cases c0 : v0 < 0
      · rw [if_pos c0]
      · rw [if_neg c0, h5, Option.bind_some, if_pos (h.resolve_left c0)]
    exact ⟨_, _, _, A, B, sim_mk rfl rfl hC hR2 hz2 (hRS.code 0) hV⟩
  · obtain ⟨r1, -, -, -, -, ⟨-, ⟨g, g2, g3⟩, g4⟩, -⟩ := id hC
    have ha := r1.get (t := 3) (i := 0) (by simp [cnC]) g2
    have ht := r1.get (t := 21) (i := k) (by simp [cnC]; exact hk) (g4 k hk)
    obtain ⟨-, -, -, -, d5, -, d7⟩ := id hV
    obtain ⟨v1, v2, -⟩ := d7 k hk
    obtain ⟨-, -, b2, -, -, -, -, -, b8⟩ := id hRS
    obtain ⟨f30, f31, f32⟩ := b8 k hk
    obtain ⟨-, -, -, f13, -, -, f16⟩ := b2 (sN 3 k) v1
    have hse := hC.sec v1
    have c0 : ¬ nI k < 0 := nI_pos (by omega)
    have c1 : ¬ nI (sN 0 2) ≤ nI k := fun q => absurd ((nI_leI (by omega) (by omega)).mp q) (by omega)
    have A1 : fMain_good n (ad 0 0) (nI k) (G1, sz) = some (if sI 6 k ≤ sI 7 0 then 0 else if sI 4 (sN 3 k) = 0 then (if sO 0 (sN 3 k) = some (sN 4 k) then 1 else 0) else 0, (G1, sz)) := by
      unfold fMain_good
      rw [if_neg c0, q_fI hm (k := 8) (x := nI (sN 0 2)) rfl, Option.bind_some, if_neg c1, q_fR hm (k := 2) (r := some (ad 3 0)) rfl, Option.bind_some, Option.bind_some, q_lenR ha, Option.bind_some, if_pos ((nI_ltI (by omega) (by omega)).mpr (by omega)), Option.bind_some, Option.bind_some, q_ldR ha (by omega) (by omega), Option.bind_some, g3 k hk]
      show (g_fI (G1, sz) (ad 21 k) 5 0).bind _ = _
      rw [q_fI ht (k := 0) (x := nI (sN 3 k)) rfl, Option.bind_some, q_is hm, Option.bind_some, q_bp (fs_some hC n v1), q_fI hm (k := 10) (x := sI 7 0) rfl, Option.bind_some, q_fI ht (k := 2) (x := sI 6 k) rfl, Option.bind_some]
      by_cases c2 : sI 6 k ≤ sI 7 0
      · rw [if_pos c2, if_pos c2]
      · rw [if_neg c2, if_neg c2]
        show (g_fI (G1, sz) (ad 13 (sN 3 k)) 2 6).bind _ = _
        rw [q_fI hse (k := 6) (x := sI 4 (sN 3 k)) rfl, Option.bind_some]
        by_cases c3 : sI 4 (sN 3 k) = 0
        · rw [if_pos c3, if_pos c3, q_fR ht (k := 1) (r := some (ad 22 (sN 4 k))) rfl, Option.bind_some, Option.bind_some, q_is hse, Option.bind_some]
          have es : fSecret_stillHas n (ad 13 (sN 3 k)) (ad 22 (sN 4 k)) (G1, sz) = some (if sO 0 (sN 3 k) = some (sN 4 k) then 1 else 0, (G1, sz)) := by
            unfold fSecret_stillHas
            rw [q_fR hse (k := 3) (r := (sO 0 (sN 3 k)).map (ad 22)) rfl, Option.bind_some]
            cases eo : sO 0 (sN 3 k) with
            | none => rfl
            | some w =>
              have hw := ((d5 _ v1).2.1 w eo).1
              simp only [Option.map_some, g_n, Option.bind_some]
              rw [q_fI (hC.val hw) (k := 0) (x := nI w) rfl, Option.bind_some, q_fI (hC.val v2) (k := 0) (x := nI (sN 4 k)) rfl, Option.bind_some]
              by_cases c4 : w = sN 4 k
              · rw [if_pos (by rw [c4]), if_pos (by rw [c4])]
              · rw [if_neg (fun q => c4 ((nI_eq (by omega) (by omega)).mp q)), if_neg (fun q => c4 (Option.some.inj q))]
          rw [q_bp es]
          by_cases c4 : sO 0 (sN 3 k) = some (sN 4 k)
          · rw [if_pos c4, if_neg (by decide)]
          · rw [if_neg c4, if_pos rfl]
        · rw [if_neg c3, if_neg c3]
    have B1 : fRef_good n (bd 0) (nI k) (G2, sz) = some (if sI 6 k ≤ sI 7 0 then 0 else if sI 4 (sN 3 k) = 0 then (if sO 0 (sN 3 k) = some (sN 4 k) then 1 else 0) else 0, z2) := by
      unfold fRef_good
      rw [e2, Option.bind_some, if_neg c0, h5, Option.bind_some, if_neg c1, h1, Option.bind_some, r_R hR2 32 rfl, Option.bind_some, Option.bind_some, r_ld hR2 (k := 32) (ty := .int) (by unfold aK; omega) rfl (by show k < 20; omega), f32, Option.bind_some]
      by_cases c2 : sI 6 k ≤ sI 7 0
      · rw [if_pos c2, if_pos c2]
      · rw [if_neg c2, if_neg c2, r_R hR2 16 rfl, Option.bind_some, r_R hR2 30 rfl, Option.bind_some, Option.bind_some, r_ld hR2 (k := 30) (ty := .int) (by unfold aK; omega) rfl (by show k < 20; omega), f30, Option.bind_some, Option.bind_some, r_ld hR2 (k := 16) (ty := .boolean) (by unfold aK; omega) rfl (by show sN 3 k < 10; omega), f16, Option.bind_some]
        by_cases c3 : sI 4 (sN 3 k) = 0
        · rw [if_pos c3, if_pos c3, r_R hR2 31 rfl, Option.bind_some, Option.bind_some, r_ld hR2 (k := 31) (ty := .int) (by unfold aK; omega) rfl (by show k < 20; omega), f31, Option.bind_some, r_R hR2 13 rfl, Option.bind_some, Option.bind_some, Option.bind_some, r_ld hR2 (k := 30) (ty := .int) (by unfold aK; omega) rfl (by show k < 20; omega), f30, Option.bind_some, Option.bind_some, r_ld hR2 (k := 13) (ty := .int) (by unfold aK; omega) rfl (by show sN 3 k < 10; omega), f13, Option.bind_some]
          have iff1 : nI (sN 4 k) = oI (sO 0 (sN 3 k)) ↔ sO 0 (sN 3 k) = some (sN 4 k) := oI_eq (by omega) (fun w hw => by have := ((d5 _ v1).2.1 w hw).1; omega)
          by_cases c4 : sO 0 (sN 3 k) = some (sN 4 k)
          · rw [if_pos (iff1.mpr c4), if_pos c4]
          · rw [if_neg (fun q => c4 (iff1.mp q)), if_neg c4]
        · rw [if_neg c3, if_neg c3]
    exact ⟨_, _, _, A1, B1, sim_mk rfl rfl hC hR2 hz2 (hRS.code 0) hV⟩
/-- what a step keeps of a secret, on both sides -/
theorem kept_cases {z z2 : gS} {ad : Nat → Nat → Nat} {ce : Nat → Nat → gE} {bd : Nat → Nat} {iv : Nat → Int32} {fa : Nat → Nat → Int32} {sI : Nat → Nat → Int32} {sO : Nat → Nat → Option Nat} {sL : Nat → Nat → List Int32} {sN : Nat → Nat → Nat} {au : List (Int32 × Int32 × Int32)} (hC : C1 z ad ce sI sO sL sN au) (hR2 : R2 z2 bd iv fa) (hRS : RS iv fa sI sO sL sN au) (hV : VS sI sO sL sN) (n : Nat) (v0 v1 : Int32) :
    (∃ i s v : Nat, i < sN 0 1 ∧ s < sN 0 0 ∧ v < sN 0 3 ∧ v0 = nI i ∧ v1 = nI s ∧ sO (2 + i) s = some v ∧ fMain_keptValue n (ad 0 0) v0 v1 z = some (some (ad 22 v), z) ∧ fRef_keptOf n (bd 0) v0 v1 z2 = some (nI v, z2)) ∨ (fMain_keptValue n (ad 0 0) v0 v1 z = some (none, z) ∧ fRef_keptOf n (bd 0) v0 v1 z2 = some (-1, z2)) := by
  have hm := c_m hC
  have hnT := hC.nT
  have hnS := hC.nS
  have hnV := hC.nV
  have h2 : iv 2 = nI (sN 0 0) := hRS.1.2.1
  have h4 : iv 4 = nI (sN 0 1) := hRS.1.2.2.2.1
  rcases i_ix v0 (n := sN 0 1) (by omega) with h | ⟨i, hi, rfl⟩
  · refine Or.inr ⟨?_, ?_⟩
    · unfold fMain_keptValue
      rw [q_is hm, Option.bind_some, q_bp (ft_none hC n h)]
      rfl
    · unfold fRef_keptOf
      rw [r_is hR2, Option.bind_some, q_bp (it_0 hR2 h4 n h), if_pos rfl]
  · obtain ⟨r1, -, -, -, ⟨-, -, g4⟩, -⟩ := id hC
    obtain ⟨-, ⟨g, g5, g6⟩, -⟩ := g4 i hi
    have ha := r1.get (t := 15) (i := i) (by simp [cnC]; exact hi) g5
    obtain ⟨-, -, -, -, -, d6, -⟩ := id hV
    obtain ⟨-, dk, -⟩ := d6 i hi
    obtain ⟨-, -, -, -, -, b5, -⟩ := id hRS
    obtain ⟨f19, -⟩ := b5 i hi
    have K : ∀ r, fStep_keptOf n (ad 14 i) v1 z = some (r, z) → fMain_keptValue n (ad 0 0) (nI i) v1 z = some (r, z) := fun r q => by
      unfold fMain_keptValue
      rw [q_is hm, Option.bind_some, q_bp (ft_some hC n hi)]
      show (g_is z (ad 14 i) 4).bind _ = _
      rw [q_is (hC.stp hi), Option.bind_some, q_bp q]
    rcases i_ix v1 (n := 10) (by omega) with h | ⟨s, hs, rfl⟩
    · refine Or.inr ⟨K _ ?_, ?_⟩
      · unfold fStep_keptOf
        by_cases c0 : v1 < 0
        · rw [if_pos c0]
        · rw [if_neg c0, q_fR (hC.stp hi) (k := 0) (r := some (ad 15 i)) rfl, Option.bind_some, Option.bind_some, q_lenR ha, Option.bind_some, if_neg (Int32.not_lt.mpr (h.resolve_left c0))]
      · unfold fRef_keptOf
        rw [r_is hR2, Option.bind_some, q_bp (it_1 hR2 h4 n hi hnT), if_neg (by decide), r_is hR2, Option.bind_some, q_bp (is_0 hR2 h2 n ?_), if_pos rfl]
        rcases h with h | h
        · exact Or.inl h
        · exact Or.inr (Int32.le_trans (nI_le hnS (by omega)) h)
    · have ks : fMain_keptValue n (ad 0 0) (nI i) (nI s) z = some ((sO (2 + i) s).map (ad 22), z) := K _ (by
        unfold fStep_keptOf
        rw [if_neg (nI_pos (by omega)), q_fR (hC.stp hi) (k := 0) (r := some (ad 15 i)) rfl, Option.bind_some, Option.bind_some, q_lenR ha, Option.bind_some, if_pos ((nI_ltI (by omega) (by omega)).mpr hs), Option.bind_some, Option.bind_some, q_ldR ha hs (by omega), Option.bind_some, g6 s hs])
      have e5 : (10 : Int32) * nI i + nI s = nI (10 * i + s) := by
        rw [show (10 : Int32) = nI 10 from rfl, pk_mul, nI_add]
      by_cases c1 : s < sN 0 0
      · have kr : fRef_keptOf n (bd 0) (nI i) (nI s) z2 = some (oI (sO (2 + i) s), z2) := by
          unfold fRef_keptOf
          rw [r_is hR2, Option.bind_some, q_bp (it_1 hR2 h4 n hi hnT), if_neg (by decide), r_is hR2, Option.bind_some, q_bp (is_1 hR2 h2 n c1 hnS), if_neg (by decide), r_R hR2 19 rfl, Option.bind_some, Option.bind_some, e5, r_ld hR2 (k := 19) (ty := .int) (by unfold aK; omega) rfl (by show 10 * i + s < 120; omega), Option.bind_some, f19 s hs]
        cases eo : sO (2 + i) s with
        | none =>
          rw [eo] at ks kr
          exact Or.inr ⟨ks, kr⟩
        | some v =>
          rw [eo] at ks kr
          exact Or.inl ⟨i, s, v, hi, c1, (dk s v hs eo).2, rfl, rfl, eo, ks, kr⟩
      · refine Or.inr ⟨?_, ?_⟩
        · cases eo : sO (2 + i) s with
          | none =>
            rw [eo] at ks
            exact ks
          | some v => exact absurd (dk s v hs eo).1 c1
        · unfold fRef_keptOf
          rw [r_is hR2, Option.bind_some, q_bp (it_1 hR2 h4 n hi hnT), if_neg (by decide), r_is hR2, Option.bind_some, q_bp (is_0 hR2 h2 n (Or.inr (nI_le (by omega) (by omega)))), if_pos rfl]
