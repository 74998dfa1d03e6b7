/-- the d-th kept one from s on, among so many -/
def sf (kp : Nat → Option Nat) : Nat → Nat → Nat → Int32
  | 0, _, _ => -1
  | k + 1, s, d => if kp s = none then sf kp k (s + 1) d else if d = 0 then nI s else sf kp k (s + 1) (d - 1)
theorem sf_none (kp : Nat → Option Nat) : ∀ (m s d : Nat), (∀ t, s ≤ t → t < s + m → kp t = none) → sf kp m s d = -1 := by
  intro m
  induction m with
  | zero => intro s d _; rfl
  | succ m ih =>
    intro s d h
    rw [sf, if_pos (h s (by omega) (by omega))]
    exact ih (s + 1) d (fun t h1 h2 => h t (by omega) (by omega))
theorem sf_ext (kp : Nat → Option Nat) (e : Nat) : ∀ (m s d : Nat), (∀ t, s + m ≤ t → t < s + m + e → kp t = none) → sf kp (m + e) s d = sf kp m s d := by
  intro m
  induction m with
  | zero =>
    intro s d h
    rw [Nat.zero_add, sf_none kp e s d (fun t h1 h2 => h t (by omega) (by omega))]
    rfl
  | succ m ih =>
    intro s d h
    rw [show m + 1 + e = (m + e) + 1 by omega, sf, sf, ih (s + 1) d (fun t h1 h2 => h t (by omega) (by omega)), ih (s + 1) (d - 1) (fun t h1 h2 => h t (by omega) (by omega))]
theorem op_sees (n x y : Nat) (hn : 1000 < n) : OP_sees n x y (Sim x y) := by
  intro G1 G2 sz v0 v1 hS
  obtain ⟨ad, ce, bd, iv, fa, sI, sO, sL, sN, au, rfl, rfl, hC, hR, hRS, hV⟩ := hS
  obtain ⟨z2, e2, hR2, hz2⟩ := r_p0 hR 0
  have hm := c_m hC
  have hnT := hC.nT
  have hnS := hC.nS
  have hnV := hC.nV
  have hRS0 := hRS.code 0
  have h2 : (up1 iv 0 0) 2 = nI (sN 0 0) := hRS.1.2.1
  have h4 : (up1 iv 0 0) 4 = nI (sN 0 1) := hRS.1.2.2.2.1
  have i2 : g_fI z2 (bd 0) 9 2 = some (nI (sN 0 0)) := by rw [r_I hR2 2 rfl]; exact congrArg some hRS.1.2.1
  -- the reference's loop
  have L : ∀ kp : Nat → Option Nat, (∀ s w, s < sN 0 0 → kp s = some w → w < 2 ^ 31) → (∀ s, s < sN 0 0 → fRef_keptOf n (bd 0) v0 (nI s) z2 = some (oI (kp s), z2)) → ∀ k s d : Nat, s ≤ sN 0 0 → sN 0 0 < s + k → d < 2 ^ 31 → fRef_sees_L10 n k (bd 0) v0 (nI d) (nI s) z2 = some (sf kp (sN 0 0 - s) s d, z2) := by
    intro kp hw hk k
    induction k with
    | zero => intro s d q1 q2 q3; omega
    | succ k ih =>
      intro s d q1 q2 q3
      rw [fRef_sees_L10, i2, Option.bind_some]
      by_cases c0 : sN 0 0 ≤ s
      · rw [if_pos ((nI_leI (by omega) (by omega)).mpr c0), show sN 0 0 - s = 0 by omega]
        rfl
      · rw [if_neg (fun q => c0 ((nI_leI (by omega) (by omega)).mp q)), if_neg (nI_pos q3), r_is hR2, Option.bind_some, q_bp (hk s (by omega)), show sN 0 0 - s = (sN 0 0 - (s + 1)) + 1 by omega, sf]
        by_cases c1 : kp s = none
        · rw [if_pos ((oI_m1 (fun w q => hw s w (by omega) q)).mpr c1), if_pos c1, nI_1, ih (s + 1) d (by omega) (by omega) q3]
        · rw [if_neg (fun q => c1 ((oI_m1 (fun w q => hw s w (by omega) q)).mp q)), if_neg c1]
          by_cases c2 : d = 0
          · subst c2
            rw [if_pos (show nI 0 = 0 from rfl), if_pos rfl]
          · rw [if_neg (show ¬ nI d = 0 from fun q => c2 ((nI_eq (b := 0) q3 (by omega)).mp q)), if_neg c2]
            obtain ⟨d', rfl⟩ : ∃ d', d = d' + 1 := ⟨d - 1, by omega⟩
            rw [pk_m1, nI_1, ih (s + 1) d' (by omega) (by omega) (by omega), Nat.add_sub_cancel]
  have Lneg : v1 < 0 → ∀ k : Nat, fRef_sees_L10 n (k + 1) (bd 0) v0 v1 0 z2 = some (-1, z2) := by
    intro c k
    rw [fRef_sees_L10, i2, Option.bind_some]
    by_cases c0 : nI (sN 0 0) ≤ 0
    · rw [if_pos c0]
    · rw [if_neg c0, if_pos c]
  obtain ⟨m, rfl⟩ : ∃ m, n = m + 1 := ⟨n - 1, by omega⟩
  rcases i_ix v0 (n := sN 0 1) (by omega) with h | ⟨i, hi, rfl⟩
  · have A : fMain_sees (m + 1) (ad 0 0) v0 v1 (G1, sz) = some (-1, (G1, sz)) := by
      unfold fMain_sees
      rw [q_is hm, Option.bind_some, q_bp (ft_none hC _ h)]
      rfl
    have B : fRef_sees (m + 1) (bd 0) v0 v1 (G2, sz) = some (-1, z2) := by
      unfold fRef_sees
      rw [e2, Option.bind_some]
      by_cases c0 : v1 < 0
      · exact Lneg c0 m
      · obtain ⟨j, hj, rfl⟩ := nI_of c0
        have := L (fun _ => none) (fun s w _ q => by cases q) (fun s hs => by
          unfold fRef_keptOf
          rw [r_is hR2, Option.bind_some, q_bp (it_0 hR2 h4 _ h), if_pos rfl]
          rfl) (m + 1) 0 j (by omega) (by omega) hj
        rw [nI_0, sf_none _ _ _ _ (fun _ _ _ => rfl)] at this
        exact this
    exact ⟨_, _, _, A, B, sim_mk rfl rfl hC hR2 hz2 hRS0 hV⟩
  · obtain ⟨r1, -, -, -, ⟨-, -, g4⟩, -⟩ := id hC
    obtain ⟨-, ⟨g, g5, g6⟩, -⟩ := g4 i hi
    have ha := r1.get (t := 15) (i := i) (by simp [cnC]; exact hi) g5
    obtain ⟨-, -, -, -, -, d6, -⟩ := id hV
    obtain ⟨-, dk, -⟩ := d6 i hi
    obtain ⟨-, -, -, -, -, b5, -⟩ := id hRS
    obtain ⟨f19, -⟩ := b5 i hi
    have hk : ∀ s, s < sN 0 0 → fRef_keptOf (m + 1) (bd 0) (nI i) (nI s) z2 = some (oI (sO (2 + i) s), z2) := fun s hs => by
      have e5 : (10 : Int32) * nI i + nI s = nI (10 * i + s) := by
        rw [show (10 : Int32) = nI 10 from rfl, pk_mul, nI_add]
      unfold fRef_keptOf
      rw [r_is hR2, Option.bind_some, q_bp (it_1 hR2 h4 _ hi hnT), if_neg (by decide), r_is hR2, Option.bind_some, q_bp (is_1 hR2 h2 _ hs hnS), if_neg (by decide), r_R hR2 19 rfl, Option.bind_some, Option.bind_some, e5, r_ld hR2 (k := 19) (ty := .int) (by unfold aK; omega) rfl (by show 10 * i + s < 120; omega), Option.bind_some, f19 s (by omega)]
    have M : ∀ r, fStep_seenAt (m + 1) (ad 14 i) v1 (G1, sz) = some (r, (G1, sz)) → fMain_sees (m + 1) (ad 0 0) (nI i) v1 (G1, sz) = some (r, (G1, sz)) := fun r q => by
      unfold fMain_sees
      rw [q_is hm, Option.bind_some, q_bp (ft_some hC _ hi)]
      show (g_is (G1, sz) (ad 14 i) 4).bind _ = _
      rw [q_is (hC.stp hi), Option.bind_some, q_bp q]
    have S : ∀ k s (b : Int32), s < 10 → fStep_seenAt_L4 (m + 1) (k + 1) (ad 14 i) v1 b (nI s) (G1, sz) = (if sO (2 + i) s = none then fStep_seenAt_L4 (m + 1) k (ad 14 i) v1 b (nI (s + 1)) (G1, sz) else if b = v1 then some (nI s, (G1, sz)) else fStep_seenAt_L4 (m + 1) k (ad 14 i) v1 (b + 1) (nI (s + 1)) (G1, sz)) := by
      intro k s b hs
      rw [fStep_seenAt_L4, q_fR (hC.stp hi) (k := 0) (r := some (ad 15 i)) rfl, Option.bind_some, Option.bind_some, q_lenR ha, Option.bind_some, if_neg (fun q => absurd ((nI_leI (by omega) (by omega)).mp q) (by omega)), Option.bind_some, Option.bind_some, q_ldR ha hs (by omega), Option.bind_some, g6 s hs, nI_1]
      cases sO (2 + i) s with
      | none => rfl
      | some w => rfl
    have E : ∀ k (b : Int32), fStep_seenAt_L4 (m + 1) (k + 1) (ad 14 i) v1 b (nI 10) (G1, sz) = some (-1, (G1, sz)) := by
      intro k b
      rw [fStep_seenAt_L4, q_fR (hC.stp hi) (k := 0) (r := some (ad 15 i)) rfl, Option.bind_some, Option.bind_some, q_lenR ha, Option.bind_some, if_pos (Int32.le_refl _)]
    by_cases c0 : v1 < 0
    · have A : fMain_sees (m + 1) (ad 0 0) (nI i) v1 (G1, sz) = some (-1, (G1, sz)) := M _ (by
        unfold fStep_seenAt
        have : ∀ k s c, s ≤ 10 → 10 < s + k → c ≤ s → fStep_seenAt_L4 (m + 1) k (ad 14 i) v1 (nI c) (nI s) (G1, sz) = some (-1, (G1, sz)) := by
          intro k
          induction k with
          | zero => intro s c q1 q2 q3; omega
          | succ k ih =>
            intro s c q1 q2 q3
            by_cases e : s = 10
            · subst e
              exact E k _
            · rw [S k s _ (by omega), ih (s + 1) c (by omega) (by omega) (by omega), nI_1, ih (s + 1) (c + 1) (by omega) (by omega) (by omega), if_neg (show ¬ nI c = v1 from fun q => absurd (by rw [q]; exact c0) (nI_pos (n := c) (by omega)))]
              split <;> rfl
        exact this (m + 1) 0 0 (by omega) (by omega) (by omega))
      have B : fRef_sees (m + 1) (bd 0) (nI i) v1 (G2, sz) = some (-1, z2) := by
        unfold fRef_sees
        rw [e2, Option.bind_some]
        exact Lneg c0 m
      exact ⟨_, _, _, A, B, sim_mk rfl rfl hC hR2 hz2 hRS0 hV⟩
    · obtain ⟨j, hj, rfl⟩ := nI_of c0
      have A : fMain_sees (m + 1) (ad 0 0) (nI i) (nI j) (G1, sz) = some (sf (sO (2 + i)) 10 0 j, (G1, sz)) := M _ (by
        unfold fStep_seenAt
        have : ∀ k s c, s ≤ 10 → 10 < s + k → c ≤ s → c ≤ j → fStep_seenAt_L4 (m + 1) k (ad 14 i) (nI j) (nI c) (nI s) (G1, sz) = some (sf (sO (2 + i)) (10 - s) s (j - c), (G1, sz)) := by
          intro k
          induction k with
          | zero => intro s c q1 q2 q3 q4; omega
          | succ k ih =>
            intro s c q1 q2 q3 q4
            by_cases e : s = 10
            · subst e
              exact E k _
            · rw [S k s _ (by omega), show 10 - s = (10 - (s + 1)) + 1 by omega, sf]
              by_cases c1 : sO (2 + i) s = none
              · rw [if_pos c1, if_pos c1, ih (s + 1) c (by omega) (by omega) (by omega) q4]
              · rw [if_neg c1, if_neg c1]
                by_cases c2 : c = j
                · subst c2
                  rw [if_pos rfl, if_pos (by omega)]
                · rw [if_neg (fun q => c2 ((nI_eq (by omega) hj).mp q)), if_neg (by omega), nI_1, ih (s + 1) (c + 1) (by omega) (by omega) (by omega) (by omega), show j - c - 1 = j - (c + 1) by omega]
        exact this (m + 1) 0 0 (by omega) (by omega) (by omega) (by omega))
      have B : fRef_sees (m + 1) (bd 0) (nI i) (nI j) (G2, sz) = some (sf (sO (2 + i)) 10 0 j, z2) := by
        unfold fRef_sees
        rw [e2, Option.bind_some]
        have := L (sO (2 + i)) (fun s w hs q => by have := (dk s w (by omega) q).2; omega) hk (m + 1) 0 j (by omega) (by omega) hj
        rw [nI_0] at this
        rw [this, show (10 : Nat) = sN 0 0 + (10 - sN 0 0) by omega, sf_ext _ _ _ _ _ (fun t h1 h2 => ?_)]
        · rfl
        · cases eo : sO (2 + i) t with
          | none => rfl
          | some w => have := (dk t w (by omega) eo).1; omega
      exact ⟨_, _, _, A, B, sim_mk rfl rfl hC hR2 hz2 hRS0 hV⟩
