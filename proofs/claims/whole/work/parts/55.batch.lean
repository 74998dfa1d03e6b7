theorem rh.batch {z z1 : gS} {ad : Nat → Nat → Nat} {ce : Nat → Nat → gE} {cn : Nat → Nat} (h : rh z ad ce cn) (t0 m I : Nat) (nc : Nat → gE) (hcn : ∀ t, t0 ≤ t → t < t0 + m → cn t = I) (hz : z1.2 = z.2 + m) (hold : ∀ b, b < z.2 → z1.1 b = z.1 b) (hnew : ∀ j, j < m → z1.1 (z.2 + j) = some (nc j)) :
    rh z1 (fun t i => if t0 ≤ t ∧ t < t0 + m ∧ i = I then z.2 + (t - t0) else ad t i) (fun t i => if t0 ≤ t ∧ t < t0 + m ∧ i = I then nc (t - t0) else ce t i) (fun t => if t0 ≤ t ∧ t < t0 + m then I + 1 else cn t) := by
  have old : ∀ t i, i < (if t0 ≤ t ∧ t < t0 + m then I + 1 else cn t) → ¬ (t0 ≤ t ∧ t < t0 + m ∧ i = I) → i < cn t := by
    intro t i h1 h2
    by_cases e : t0 ≤ t ∧ t < t0 + m
    · rw [if_pos e] at h1
      rw [hcn t e.1 e.2]
      have : i ≠ I := fun q => h2 ⟨e.1, e.2, q⟩
      omega
    · rw [if_neg e] at h1
      exact h1
  refine ⟨fun t i hi => ?_, fun t i hi => ?_, fun t i t' i' hi hi' he => ?_⟩
  · by_cases e : t0 ≤ t ∧ t < t0 + m ∧ i = I
    · simp only [if_pos e]
      exact hnew _ (by omega)
    · simp only [if_neg e]
      rw [hold _ (h.2.1 t i (old t i hi e))]
      exact h.1 t i (old t i hi e)
  · rw [hz]
    by_cases e : t0 ≤ t ∧ t < t0 + m ∧ i = I
    · simp only [if_pos e]
      omega
    · simp only [if_neg e]
      have := h.2.1 t i (old t i hi e)
      omega
  · by_cases e : t0 ≤ t ∧ t < t0 + m ∧ i = I
    · by_cases e' : t0 ≤ t' ∧ t' < t0 + m ∧ i' = I
      · simp only [if_pos e, if_pos e'] at he
        exact ⟨by omega, e.2.2.trans e'.2.2.symm⟩
      · simp only [if_pos e, if_neg e'] at he
        have := h.2.1 t' i' (old t' i' hi' e')
        omega
    · by_cases e' : t0 ≤ t' ∧ t' < t0 + m ∧ i' = I
      · simp only [if_neg e, if_pos e'] at he
        have := h.2.1 t i (old t i hi e)
        omega
      · simp only [if_neg e, if_neg e'] at he
        exact h.2.2 t i t' i' (old t i hi e) (old t' i' hi' e') he
theorem C1.keepz {z z1 : gS} {ad : Nat → Nat → Nat} {ce : Nat → Nat → gE} {sI : Nat → Nat → Int32} {sO : Nat → Nat → Option Nat} {sL : Nat → Nat → List Int32} {sN : Nat → Nat → Nat} {au : List (Int32 × Int32 × Int32)} (h : C1 z ad ce sI sO sL sN au) (hz : z.2 ≤ z1.2) (ho : ∀ b, b < z.2 → z1.1 b = z.1 b) : C1 z1 ad ce sI sO sL sN au := by
  refine ⟨⟨fun t i hi => ?_, fun t i hi => Nat.lt_of_lt_of_le (h.1.2.1 t i hi) hz, h.1.2.2⟩, h.2⟩
  rw [ho _ (h.1.2.1 t i hi)]
  exact h.1.1 t i hi
/-- a new Text and its row -/
theorem tx_make {z : gS} {cap : Nat} (hc : cap ≤ 300) (n : Nat) : ∃ z1 : gS, fText_init n z.2 (nI cap) (g_nw z (.inr (0, [.null, .int 0]))) = some z1 ∧ tx z1 z.2 (z.2 + 1) cap [] ∧ z1.2 = z.2 + 2 ∧ ∀ b, b < z.2 → z1.1 b = z.1 b := by
  obtain ⟨z1, e, t, s, o⟩ := tx_init (z := g_nw z (.inr (0, [.null, .int 0]))) (q := z.2) (cap := cap) q_nw (by rw [q_n2]; omega) hc n
  rw [q_n2] at t s o
  refine ⟨z1, e, t, s, fun b hb => ?_⟩
  rw [o b (by omega) (by omega), q_nn hb]
theorem step_make (G : Nat → Option gE) (sz n : Nat) : ∃ z1 : gS, fStep_init n sz (g_nw (G, sz) (.inr (4, [.null, .null]))) = some z1 ∧ z1.2 = sz + 7 ∧ (∀ b, b < sz → z1.1 b = G b) ∧ z1.1 sz = some (.inr (4, [.ref (sz + 1), .ref (sz + 2)])) ∧ z1.1 (sz + 1) = some (aR "SecretRows$Value" 10 (fun _ => none)) ∧ z1.1 (sz + 2) = some (.inr (3, [.ref (sz + 3), .ref (sz + 5), .int 0, .int 0, .int 0])) ∧ tx z1 (sz + 3) (sz + 4) 300 [] ∧ tx z1 (sz + 5) (sz + 6) 300 [] := by
  obtain ⟨za, ea⟩ : ∃ za, za = g_nw (G, sz) (.inr (4, [.null, .null])) := ⟨_, rfl⟩
  have a2 : za.2 = sz + 1 := by rw [ea]; rfl
  have a0 : za.1 sz = some (.inr (4, [.null, .null])) := by rw [ea]; exact q_nw (z := (G, sz))
  have ao : ∀ b, b < sz → za.1 b = G b := fun b hb => by rw [ea]; exact q_nn (z := (G, sz)) hb
  obtain ⟨zb, eb⟩ : ∃ zb, zb = g_up (g_nw za (aR "SecretRows$Value" 10 (fun _ => none))) sz (.inr (4, [.ref (sz + 1), .null])) := ⟨_, rfl⟩
  have b2 : zb.2 = sz + 2 := by rw [eb, q_u2, q_n2, a2]
  have b0 : zb.1 sz = some (.inr (4, [.ref (sz + 1), .null])) := by rw [eb, q_up]
  have b1 : zb.1 (sz + 1) = some (aR "SecretRows$Value" 10 (fun _ => none)) := by rw [eb, q_un (by omega), ← a2, q_nw]
  have bo : ∀ b, b < sz → zb.1 b = G b := fun b hb => by rw [eb, q_un (by omega), q_nn (by omega), ao b hb]
  obtain ⟨zc, ec⟩ : ∃ zc, zc = g_nw zb (.inr (3, [.null, .null, .int 0, .int 0, .int 0])) := ⟨_, rfl⟩
  have c2 : zc.2 = sz + 3 := by rw [ec, q_n2, b2]
  have c1 : zc.1 (sz + 2) = some (.inr (3, [.null, .null, .int 0, .int 0, .int 0])) := by rw [ec, ← b2, q_nw]
  have co : ∀ b, b < sz + 2 → zc.1 b = zb.1 b := fun b hb => by rw [ec, q_nn (by omega)]
  obtain ⟨zd, ed, td, sd, od⟩ := tx_make (z := zc) (cap := 300) (by omega) n
  rw [c2] at ed td sd od
  have d1 : zd.1 (sz + 2) = some (.inr (3, [.null, .null, .int 0, .int 0, .int 0])) := by rw [od _ (by omega)]; exact c1
  obtain ⟨ze, ee⟩ : ∃ ze, ze = g_up zd (sz + 2) (.inr (3, [.ref (sz + 3), .null, .int 0, .int 0, .int 0])) := ⟨_, rfl⟩
  have e2 : ze.2 = sz + 5 := by rw [ee, q_u2, sd]
  have e1 : ze.1 (sz + 2) = some (.inr (3, [.ref (sz + 3), .null, .int 0, .int 0, .int 0])) := by rw [ee, q_up]
  have eo : ∀ b, b ≠ sz + 2 → ze.1 b = zd.1 b := fun b hb => by rw [ee, q_un hb]
  obtain ⟨zf, ef, tf, sf', of⟩ := tx_make (z := ze) (cap := 300) (by omega) n
  rw [e2] at ef tf sf' of
  have f1 : zf.1 (sz + 2) = some (.inr (3, [.ref (sz + 3), .null, .int 0, .int 0, .int 0])) := by rw [of _ (by omega)]; exact e1
  obtain ⟨zg, eg⟩ : ∃ zg, zg = g_up zf (sz + 2) (.inr (3, [.ref (sz + 3), .ref (sz + 5), .int 0, .int 0, .int 0])) := ⟨_, rfl⟩
  have go : ∀ b, b ≠ sz + 2 → zg.1 b = zf.1 b := fun b hb => by rw [eg, q_un hb]
  have g0 : zg.1 sz = some (.inr (4, [.ref (sz + 1), .null])) := by rw [go _ (by omega), of _ (by omega), eo _ (by omega), od _ (by omega), co _ (by omega)]; exact b0
  have hlog : fLog_init n (sz + 2) zc = some zg := by
    unfold fLog_init
    rw [show g_nwO zc 0 [.null, .int 0] = some (sz + 3, g_nw zc (.inr (0, [.null, .int 0]))) from by unfold g_nwO; rw [c2], q_bp rfl]
    rw [show (300 : Int32) = nI 300 from rfl, ed, Option.bind_some, q_pF d1 (Nat.le_of_ble_eq_true rfl), Option.bind_some]
    change g_bp (g_nwO (g_up zd (sz + 2) (.inr (3, [.ref (sz + 3), .null, .int 0, .int 0, .int 0]))) 0 [.null, .int 0]) _ = _
    rw [← ee, show g_nwO ze 0 [.null, .int 0] = some (sz + 5, g_nw ze (.inr (0, [.null, .int 0]))) from by unfold g_nwO; rw [e2], q_bp rfl, ef, Option.bind_some, q_pF f1 (Nat.le_of_ble_eq_true rfl), Option.bind_some, eg]
    rfl
  refine ⟨g_up zg sz (.inr (4, [.ref (sz + 1), .ref (sz + 2)])), ?_, ?_, ?_, q_up, ?_, ?_, ?_, ?_⟩
  · unfold fStep_init
    rw [← ea, show (10 : Int32) = nI 10 from rfl, q_bp (q_nR (by omega) (by omega)), a2]
    have w0 : (g_nw za (aR "SecretRows$Value" 10 (fun _ => none))).1 sz = some (.inr (4, [.null, .null])) := by rw [q_nn (by omega)]; exact a0
    change (g_pF (g_nw za (aR "SecretRows$Value" 10 (fun _ => none))) sz 4 0 (.ref (sz + 1))).bind _ = _
    rw [q_pF w0 (Nat.le_of_ble_eq_true rfl), Option.bind_some]
    change g_bp (g_nwO (g_up (g_nw za (aR "SecretRows$Value" 10 (fun _ => none))) sz (.inr (4, [.ref (sz + 1), .null]))) 3 [.null, .null, .int 0, .int 0, .int 0]) _ = _
    rw [← eb, show g_nwO zb 3 [.null, .null, .int 0, .int 0, .int 0] = some (sz + 2, g_nw zb (.inr (3, [.null, .null, .int 0, .int 0, .int 0]))) from by unfold g_nwO; rw [b2], q_bp rfl, ← ec, hlog, Option.bind_some, q_pF g0 (Nat.le_of_ble_eq_true rfl), Option.bind_some]
    rfl
  · rw [q_u2, eg, q_u2, sf']
  · intro b hb
    rw [q_un (by omega), go _ (by omega), of _ (by omega), eo _ (by omega), od _ (by omega), co _ (by omega), bo b hb]
  · rw [q_un (by omega), go _ (by omega), of _ (by omega), eo _ (by omega), od _ (by omega), co _ (by omega), b1]
  · rw [q_un (by omega), eg, q_up]
  · refine td.keep ?_ ?_
    · rw [q_un (by omega), go _ (by omega), of _ (by omega), eo _ (by omega)]
    · rw [q_un (by omega), go _ (by omega), of _ (by omega), eo _ (by omega)]
  · refine tf.keep ?_ ?_
    · rw [q_un (by omega), go _ (by omega)]
    · rw [q_un (by omega), go _ (by omega)]
