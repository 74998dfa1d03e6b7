/-- a secret's rules have the three bits -/
def sbt (sI : Nat → Nat → Int32) (e b j : Int32) (s : Nat) : Int32 := ((((sI 0 s >>> (e &&& 31)) &&& (sI 1 s >>> (b &&& 31))) &&& (sI 2 s >>> (j &&& 31))) &&& 1)
/-- what a new step keeps -/
def kpS (sI : Nat → Nat → Int32) (sO : Nat → Nat → Option Nat) (N : Nat) (o e b j : Int32) (s : Nat) : Option Nat := if s < N then (if o = 0 then (if sI 4 s = 0 then (if sbt sI e b j s = 1 then sO 0 s else none) else none) else none) else none
theorem keep_loop {G1 : Nat → Option gE} {sz : Nat} {ad : Nat → Nat → Nat} {ce : Nat → Nat → gE} {sI : Nat → Nat → Int32} {sO : Nat → Nat → Option Nat} {sL : Nat → Nat → List Int32} {sN : Nat → Nat → Nat} {au : List (Int32 × Int32 × Int32)} (hC : C1 (G1, sz) ad ce sI sO sL sN au) (hV : VS sI sO sL sN) (n : Nat) (e b j : Int32) {x2 : Nat} :
    ∀ (k s : Nat) (g : Nat → Option Nat) (z : gS), s ≤ sN 0 0 → sN 0 0 < s + k → z.2 = sz + 7 → (∀ q, q < sz → z.1 q = G1 q) → z.1 sz = some (.inr (4, [.ref (sz + 1), .ref x2])) → z.1 (sz + 1) = some (aR "SecretRows$Value" 10 g) → (∀ t, s ≤ t → g t = none) →
      ∃ (z1 : gS) (g1 : Nat → Option Nat), fMain_keepSeen_L3 n k (ad 0 0) sz e b j (nI s) z = some z1 ∧ z1.2 = sz + 7 ∧ (∀ q, q ≠ sz + 1 → z1.1 q = z.1 q) ∧ z1.1 (sz + 1) = some (aR "SecretRows$Value" 10 g1) ∧ ∀ t, g1 t = if s ≤ t ∧ t < sN 0 0 then (kpS sI sO (sN 0 0) 0 e b j t).map (ad 22) else g t := by
  have hnS := hC.nS
  intro k
  induction k with
  | zero => intro s g z q1 q2; omega
  | succ k ih =>
    intro s g z q1 q2 q3 q4 q5 q6 q7
    have hCz : C1 z ad ce sI sO sL sN au := hC.keepz (by show sz ≤ z.2; omega) (fun q hq => q4 q hq)
    have hm := c_m hCz
    rw [fMain_keepSeen_L3, q_fI hm (k := 6) (x := nI (sN 0 0)) rfl, Option.bind_some]
    by_cases c0 : sN 0 0 ≤ s
    · rw [if_pos ((nI_leI (by omega) (by omega)).mpr c0)]
      refine ⟨z, g, rfl, q3, fun _ _ => rfl, q6, fun t => ?_⟩
      rw [if_neg (by omega)]
    · have hs : s < sN 0 0 := by omega
      have hse := hCz.sec hs
      rw [if_neg (fun q => c0 ((nI_leI (by omega) (by omega)).mp q)), q_is hm, Option.bind_some, q_bp (fs_some hCz n hs)]
      simp only [g_n]
      rw [q_fI hse (k := 6) (x := sI 4 s) rfl, Option.bind_some, nI_1]
      have isf : fSecret_isFor n (ad 13 s) e b j z = some (if sbt sI e b j s = 1 then 1 else 0, z) := by
        unfold fSecret_isFor
        rw [q_fI hse (k := 0) (x := sI 0 s) rfl, Option.bind_some, q_fI hse (k := 1) (x := sI 1 s) rfl, Option.bind_some, q_fI hse (k := 2) (x := sI 2 s) rfl, Option.bind_some]
        by_cases c : sbt sI e b j s = 1
        · rw [if_pos c, if_pos (by exact c)]
        · rw [if_neg c, if_neg (by exact c)]
      have skip : kpS sI sO (sN 0 0) 0 e b j s = none → ∃ (z1 : gS) (g1 : Nat → Option Nat), fMain_keepSeen_L3 n k (ad 0 0) sz e b j (nI (s + 1)) z = some z1 ∧ z1.2 = sz + 7 ∧ (∀ q, q ≠ sz + 1 → z1.1 q = z.1 q) ∧ z1.1 (sz + 1) = some (aR "SecretRows$Value" 10 g1) ∧ ∀ t, g1 t = if s ≤ t ∧ t < sN 0 0 then (kpS sI sO (sN 0 0) 0 e b j t).map (ad 22) else g t := by
        intro hk
        obtain ⟨z1, g1, a1, a2, a3, a4, a5⟩ := ih (s + 1) g z (by omega) (by omega) q3 q4 q5 q6 (fun t ht => q7 t (by omega))
        refine ⟨z1, g1, a1, a2, a3, a4, fun t => ?_⟩
        rw [a5 t]
        by_cases et : t = s
        · subst et
          rw [if_neg (by omega), if_pos ⟨Nat.le_refl _, hs⟩, hk, q7 t (Nat.le_refl _)]
          rfl
        · by_cases c : s + 1 ≤ t ∧ t < sN 0 0
          · rw [if_pos c, if_pos (by omega)]
          · rw [if_neg c, if_neg (by omega)]
      by_cases c1 : sI 4 s = 0
      · rw [if_pos c1, q_is hse, Option.bind_some, q_bp isf]
        by_cases c2 : sbt sI e b j s = 1
        · rw [if_pos c2, if_neg (by decide), q_fR hse (k := 3) (r := (sO 0 s).map (ad 22)) rfl, Option.bind_some, q_is q5, Option.bind_some]
          have hk : kpS sI sO (sN 0 0) 0 e b j s = sO 0 s := by
            unfold kpS
            rw [if_pos hs, if_pos rfl, if_pos c1, if_pos c2]
          have kee : fStep_keep n sz (nI s) ((sO 0 s).map (ad 22)) z = some (g_up z (sz + 1) (aR "SecretRows$Value" 10 (va_up g s ((sO 0 s).map (ad 22))))) := by
            unfold fStep_keep
            rw [if_neg (nI_pos (by omega)), q_fR q5 (k := 0) (r := some (sz + 1)) rfl, Option.bind_some, Option.bind_some, q_lenR q6, Option.bind_some, if_neg (fun q => absurd ((nI_leI (by omega) (by omega)).mp q) (by omega)), Option.bind_some, Option.bind_some]
            cases eo : sO 0 s with
            | none =>
              simp only [Option.map_none, g_n]
              rw [q_stR q6 (by omega) (by omega), Option.bind_some]
              rfl
            | some w =>
              obtain ⟨-, -, -, -, d5, -⟩ := id hV
              have hw := ((d5 s hs).2.1 w eo).1
              simp only [Option.map_some, g_n]
              rw [q_is (hCz.val hw), Option.bind_some, q_stR q6 (by omega) (by omega), Option.bind_some]
              rfl
          rw [kee, Option.bind_some]
          obtain ⟨z1, g1, a1, a2, a3, a4, a5⟩ := ih (s + 1) (va_up g s ((sO 0 s).map (ad 22))) (g_up z (sz + 1) (aR "SecretRows$Value" 10 (va_up g s ((sO 0 s).map (ad 22))))) (by omega) (by omega) q3 (fun q hq => by rw [q_un (by omega)]; exact q4 q hq) (by rw [q_un (by omega)]; exact q5) q_up (fun t ht => by rw [va_up_ne _ _ (by omega)]; exact q7 t (by omega))
          refine ⟨z1, g1, a1, a2, fun q hq => by rw [a3 q hq, q_un hq], a4, fun t => ?_⟩
          rw [a5 t]
          by_cases et : t = s
          · subst et
            rw [if_neg (by omega), if_pos ⟨Nat.le_refl _, hs⟩, hk, va_up_self]
          · rw [va_up_ne _ _ et]
            by_cases c : s + 1 ≤ t ∧ t < sN 0 0
            · rw [if_pos c, if_pos (by omega)]
            · rw [if_neg c, if_neg (by omega)]
        · rw [if_neg c2, if_pos rfl]
          exact skip (by unfold kpS; rw [if_pos hs, if_pos rfl, if_pos c1, if_neg c2])
      · rw [if_neg c1]
        exact skip (by unfold kpS; rw [if_pos hs, if_pos rfl, if_neg c1])
theorem rstep_loop {bd : Nat → Nat} {iv : Nat → Int32} {sI : Nat → Nat → Int32} {sO : Nat → Nat → Option Nat} {N T : Nat} (n : Nat) (e b j o : Int32) (hN : N ≤ 10) (hT : T < 12) (h2 : iv 2 = nI N) (h4 : iv 4 = nI T) :
    ∀ (k s : Nat) (fa : Nat → Nat → Int32) (z : gS), s ≤ 10 → 10 < s + k → R2 z bd iv fa → (∀ q, q < N → fa 10 q = sI 0 q ∧ fa 11 q = sI 1 q ∧ fa 12 q = sI 2 q ∧ fa 13 q = oI (sO 0 q) ∧ fa 16 q = sI 4 q) →
      ∃ (z1 : gS) (fa1 : Nat → Nat → Int32), fRef_step_L49 n k (bd 0) e b j o (nI s) z = some (nI T, z1) ∧ R2 z1 bd (up1 iv 4 (nI (T + 1))) fa1 ∧ z1.2 = z.2 ∧ (∀ q, q ≠ 19 → fa1 q = fa q) ∧ (∀ t, s ≤ t → t < 10 → fa1 19 (10 * T + t) = oI (kpS sI sO N o e b j t)) ∧ ∀ q, (q < 10 * T + s ∨ 10 * T + 10 ≤ q) → fa1 19 q = fa 19 q := by
  intro k
  induction k with
  | zero => intro s fa z q1 q2; omega
  | succ k ih =>
    intro s fa z q1 q2 hR hf
    rw [fRef_step_L49]
    by_cases c0 : 10 ≤ s
    · obtain ⟨z1, e1, hR1, hz1⟩ := r_p4 hR (nI (T + 1))
      rw [if_pos (show 10 ≤ nI s from (nI_leI (a := 10) (by omega) (by omega)).mpr c0), r_I hR 4 rfl, h4, Option.bind_some, nI_1, e1, Option.bind_some, r_I hR1 4 rfl, Option.bind_some]
      refine ⟨z1, fa, ?_, hR1, hz1, fun _ _ => rfl, fun t a1 a2 => by omega, fun _ _ => rfl⟩
      show some (nI (T + 1) - 1, z1) = _
      rw [nI_pred]
    · have hs : s < 10 := by omega
      rw [if_neg (show ¬ 10 ≤ nI s from fun q => c0 ((nI_leI (a := 10) (by omega) (by omega)).mp q)), r_I hR 2 rfl, h2, Option.bind_some]
      have e5 : (10 : Int32) * nI T + nI s = nI (10 * T + s) := by
        rw [show (10 : Int32) = nI 10 from rfl, pk_mul, nI_add]
      -- one place is written, then the loop goes on
      have put : ∀ w : Int32, w = oI (kpS sI sO N o e b j s) → ∀ zz : gS, g_stI z .int (bd 19) (nI (10 * T + s)) w = some zz → ∃ (z1 : gS) (fa1 : Nat → Nat → Int32), fRef_step_L49 n k (bd 0) e b j o (nI (s + 1)) zz = some (nI T, z1) ∧ R2 z1 bd (up1 iv 4 (nI (T + 1))) fa1 ∧ z1.2 = z.2 ∧ (∀ q, q ≠ 19 → fa1 q = fa q) ∧ (∀ t, s ≤ t → t < 10 → fa1 19 (10 * T + t) = oI (kpS sI sO N o e b j t)) ∧ ∀ q, (q < 10 * T + s ∨ 10 * T + 10 ≤ q) → fa1 19 q = fa 19 q := by
        intro w hw zz hzz
        obtain ⟨z1, e1, hR1, hz1⟩ := r_st hR (k := 19) (ty := .int) (by unfold aK; omega) rfl (j := 10 * T + s) (by show _ < 120; omega) w
        rw [hzz] at e1
        cases e1
        obtain ⟨z2, fa2, a1, a2, a3, a4, a5, a6⟩ := ih (s + 1) (ru fa 19 (10 * T + s) w) zz (by omega) (by omega) hR1 (fun q hq => by
          obtain ⟨p1, p2, p3, p4, p5⟩ := hf q hq
          exact ⟨p1, p2, p3, p4, p5⟩)
        refine ⟨z2, fa2, a1, a2, a3.trans hz1, fun q hq => by rw [a4 q hq]; exact ru_f _ _ hq, fun t t1 t2 => ?_, fun q hq => ?_⟩
        · by_cases et : t = s
          · subst et
            rw [a6 _ (Or.inl (by omega)), ru_s, hw]
          · exact a5 t (by omega) t2
        · rw [a6 q (by omega), ru_i _ _ (by omega)]
      have P0 : kpS sI sO N o e b j s = none → ∃ (z1 : gS) (fa1 : Nat → Nat → Int32), fRef_step_J119 n (fun a0b i1b i2b i3b i4b i5b z => fRef_step_L49 n k a0b i1b i2b i3b i4b i5b z) (bd 0) e b j o (nI s) z = some (nI T, z1) ∧ R2 z1 bd (up1 iv 4 (nI (T + 1))) fa1 ∧ z1.2 = z.2 ∧ (∀ q, q ≠ 19 → fa1 q = fa q) ∧ (∀ t, s ≤ t → t < 10 → fa1 19 (10 * T + t) = oI (kpS sI sO N o e b j t)) ∧ ∀ q, (q < 10 * T + s ∨ 10 * T + 10 ≤ q) → fa1 19 q = fa 19 q := by
        intro hk
        obtain ⟨zz, ez, -⟩ := r_st hR (k := 19) (ty := .int) (by unfold aK; omega) rfl (j := 10 * T + s) (by show _ < 120; omega) (-1)
        unfold fRef_step_J119 fRef_step_J120
        rw [r_R hR 19 rfl, Option.bind_some, r_I hR 4 rfl, h4, Option.bind_some, if_pos rfl, Option.bind_some, e5, ez, Option.bind_some, nI_1]
        exact put (-1) (by rw [hk]; rfl) zz ez
      by_cases c1 : N ≤ s
      · rw [if_pos ((nI_leI (by omega) (by omega)).mpr c1)]
        exact P0 (by unfold kpS; rw [if_neg (by omega)])
      · obtain ⟨p1, p2, p3, p4, p5⟩ := hf s (by omega)
        rw [if_neg (fun q => c1 ((nI_leI (by omega) (by omega)).mp q))]
        by_cases c2 : o = 0
        · rw [if_pos c2, r_R hR 16 rfl, Option.bind_some, Option.bind_some, r_ld hR (k := 16) (ty := .boolean) (by unfold aK; omega) rfl (by show s < 10; omega), p5, Option.bind_some]
          by_cases c3 : sI 4 s = 0
          · rw [if_pos c3, r_R hR 10 rfl, Option.bind_some, Option.bind_some, r_ld hR (k := 10) (ty := .int) (by unfold aK; omega) rfl (by show s < 10; omega), p1, Option.bind_some, r_R hR 11 rfl, Option.bind_some, Option.bind_some, r_ld hR (k := 11) (ty := .int) (by unfold aK; omega) rfl (by show s < 10; omega), p2, Option.bind_some, r_R hR 12 rfl, Option.bind_some, Option.bind_some, r_ld hR (k := 12) (ty := .int) (by unfold aK; omega) rfl (by show s < 10; omega), p3, Option.bind_some]
            by_cases c4 : sbt sI e b j s = 1
            · rw [if_pos (by exact c4)]
              obtain ⟨zz, ez, -⟩ := r_st hR (k := 19) (ty := .int) (by unfold aK; omega) rfl (j := 10 * T + s) (by show _ < 120; omega) (oI (sO 0 s))
              unfold fRef_step_J120
              rw [r_R hR 19 rfl, Option.bind_some, r_I hR 4 rfl, h4, Option.bind_some, if_neg (by decide), r_R hR 13 rfl, Option.bind_some, Option.bind_some, r_ld hR (k := 13) (ty := .int) (by unfold aK; omega) rfl (by show s < 10; omega), p4, Option.bind_some, Option.bind_some, e5, ez, Option.bind_some, nI_1]
              exact put _ (by unfold kpS; rw [if_pos (by omega), if_pos c2, if_pos c3, if_pos c4]) zz ez
            · rw [if_neg (by exact c4)]
              exact P0 (by unfold kpS; rw [if_pos (by omega), if_pos c2, if_pos c3, if_neg c4])
          · rw [if_neg c3]
            exact P0 (by unfold kpS; rw [if_pos (by omega), if_pos c2, if_neg c3])
        · rw [if_neg c2]
          exact P0 (by unfold kpS; rw [if_pos (by omega), if_neg c2])
