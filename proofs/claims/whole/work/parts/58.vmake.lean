theorem tx_clear {z : gS} {a ra cap : Nat} {xs : List Int32} (h : tx z a ra cap xs) (n : Nat) : ∃ z1 : gS, fText_clear n a z = some z1 ∧ tx z1 a ra cap [] ∧ z1.2 = z.2 ∧ ∀ b, b ≠ a → b ≠ ra → z1.1 b = z.1 b := by
  obtain ⟨h1, h2, h3, f, h4, h5⟩ := id h
  refine ⟨g_up z a (.inr (0, [.ref ra, .int 0])), by unfold fText_clear; rw [q_pF h1 (Nat.le_of_ble_eq_true rfl), Option.bind_some]; rfl, ⟨?_, by simp, h3, f, ?_, fun j hj => by simp at hj⟩, rfl, fun b hb _ => q_un hb⟩
  · rw [q_up]
    rfl
  · rw [q_un (Ne.symm h.ne)]
    exact h4
theorem map_tC {xs : List Int32} (h : ∀ x ∈ xs, cOK x) : xs.map tC = xs := by
  induction xs with
  | nil => rfl
  | cons x xs ih =>
    rw [List.map_cons, tC_ok (h x List.mem_cons_self), ih (fun y hy => h y (List.mem_cons_of_mem _ hy))]
theorem tx.lt {z : gS} {a ra cap : Nat} {xs : List Int32} {sz : Nat} (h : tx z a ra cap xs) (hw : ∀ b, sz ≤ b → z.1 b = none) : a < sz ∧ ra < sz := by
  obtain ⟨h1, -, -, f, h4, -⟩ := h
  constructor
  · apply Classical.byContradiction
    intro q
    rw [hw a (by omega)] at h1
    cases h1
  · apply Classical.byContradiction
    intro q
    rw [hw ra (by omega)] at h4
    cases h4
theorem value_make (G : Nat → Option gE) (sz n : Nat) {a ra cap : Nat} {ys : List Int32} (ht : tx (G, sz) a ra cap ys) (hla : a < sz) (hlr : ra < sz) (hl : ys.length ≤ 12) (hok : ∀ x ∈ ys, cOK x) (hn : 1000 < n) (v : Int32) : ∃ z1 : gS, fValue_init n sz v a (g_nw (G, sz) (.inr (1, [.int 0, .null, .null, .null]))) = some z1 ∧ z1.2 = sz + 7 ∧ (∀ b, b < sz → z1.1 b = G b) ∧ z1.1 sz = some (.inr (1, [.int v, .ref (sz + 1), .ref (sz + 3), .ref (sz + 5)])) ∧ tx z1 (sz + 1) (sz + 2) ys.length ys ∧ tx z1 (sz + 3) (sz + 4) ys.length ys.reverse ∧ tx z1 (sz + 5) (sz + 6) (2 * ys.length) (hexL ys) := by
  obtain ⟨za, ea⟩ : ∃ za, za = g_nw (G, sz) (.inr (1, [.int v, .null, .null, .null])) := ⟨_, rfl⟩
  have a2 : za.2 = sz + 1 := by rw [ea]; rfl
  have a0 : za.1 sz = some (.inr (1, [.int v, .null, .null, .null])) := by rw [ea]; exact q_nw (z := (G, sz))
  have ao : ∀ b, b < sz → za.1 b = G b := fun b hb => by rw [ea]; exact q_nn (z := (G, sz)) hb
  have ta : tx za a ra cap ys := ht.keep (ao a hla) (ao ra hlr)
  -- the text
  obtain ⟨zb, eb, tb, sb, ob⟩ := tx_make (z := za) (cap := ys.length) (by omega) n
  rw [a2] at eb tb sb ob
  have b0 : zb.1 sz = some (.inr (1, [.int v, .null, .null, .null])) := (ob sz (by omega)).trans a0
  obtain ⟨zc, ec⟩ : ∃ zc, zc = g_up zb sz (.inr (1, [.int v, .ref (sz + 1), .null, .null])) := ⟨_, rfl⟩
  have co : ∀ b, b ≠ sz → zc.1 b = zb.1 b := fun b hb => by rw [ec, q_un hb]
  have c0 : zc.1 sz = some (.inr (1, [.int v, .ref (sz + 1), .null, .null])) := by rw [ec, q_up]
  have c2 : zc.2 = sz + 3 := by rw [ec, q_u2, sb]
  have tc : tx zc (sz + 1) (sz + 2) ys.length [] := tb.keep (co _ (by omega)) (co _ (by omega))
  have tca : tx zc a ra cap ys := ta.keep (by rw [co _ (by omega), ob _ (by omega)]) (by rw [co _ (by omega), ob _ (by omega)])
  obtain ⟨zd, ed, td, sd, od⟩ := tx_addAll n (by omega) (by omega) n 0 [] zc tc tca (by omega) (by simp) (by omega)
  rw [List.drop_zero, List.nil_append, map_tC hok] at td
  rw [c2] at sd
  have tda : tx zd a ra cap ys := tca.keep (od _ (by omega) (by omega)) (od _ (by omega) (by omega))
  have d0 : zd.1 sz = some (.inr (1, [.int v, .ref (sz + 1), .null, .null])) := (od _ (by omega) (by omega)).trans c0
  have dold : ∀ b, b < sz → zd.1 b = G b := fun b hb => by rw [od _ (by omega) (by omega), co _ (by omega), ob _ (by omega), ao b hb]
  -- from the end
  obtain ⟨ze, ee, te, se, oe⟩ := tx_make (z := zd) (cap := ys.length) (by omega) n
  rw [sd] at ee te se oe
  have tea : tx ze a ra cap ys := tda.keep (oe _ (by omega)) (oe _ (by omega))
  obtain ⟨zf, ef, tf, sf', of⟩ := vl_turned n (by omega) (by omega) n ys.length [] ze te tea (by omega) (by simp) (by omega)
  rw [List.nil_append, List.take_length, map_tC (fun x hx => hok x (List.mem_reverse.mp hx))] at tf
  rw [se] at sf'
  have f0 : zf.1 sz = some (.inr (1, [.int v, .ref (sz + 1), .null, .null])) := by rw [of _ (by omega) (by omega), oe _ (by omega)]; exact d0
  obtain ⟨zg, eg⟩ : ∃ zg, zg = g_up zf sz (.inr (1, [.int v, .ref (sz + 1), .ref (sz + 3), .null])) := ⟨_, rfl⟩
  have go : ∀ b, b ≠ sz → zg.1 b = zf.1 b := fun b hb => by rw [eg, q_un hb]
  have g0 : zg.1 sz = some (.inr (1, [.int v, .ref (sz + 1), .ref (sz + 3), .null])) := by rw [eg, q_up]
  have g2 : zg.2 = sz + 5 := by rw [eg, q_u2, sf']
  have gold : ∀ b, b < sz + 3 → b ≠ sz → zg.1 b = zd.1 b := fun b hb hb2 => by rw [go _ hb2, of _ (by omega) (by omega), oe _ (by omega)]
  have tga : tx zg a ra cap ys := tda.keep (gold _ (by omega) (by omega)) (gold _ (by omega) (by omega))
  -- by codes
  obtain ⟨zh, eh, th, sh, oh⟩ := tx_make (z := zg) (cap := 2 * ys.length) (by omega) n
  rw [g2] at eh th sh oh
  have tha : tx zh a ra cap ys := tga.keep (oh _ (by omega)) (oh _ (by omega))
  obtain ⟨zi, ei, ti, si, oi⟩ := vl_codes n (by omega) (by omega) n 0 [] zh th tha (by omega) (by simp) (by omega)
  rw [List.drop_zero, List.nil_append] at ti
  rw [sh] at si
  have i0 : zi.1 sz = some (.inr (1, [.int v, .ref (sz + 1), .ref (sz + 3), .null])) := by rw [oi _ (by omega) (by omega), oh _ (by omega)]; exact g0
  have iold : ∀ b, b < sz + 5 → zi.1 b = zg.1 b := fun b hb => by rw [oi _ (by omega) (by omega), oh _ (by omega)]
  have e2l : (2 : Int32) * nI ys.length = nI (2 * ys.length) := by rw [show (2 : Int32) = nI 2 from rfl, pk_mul]
  refine ⟨g_up zi sz (.inr (1, [.int v, .ref (sz + 1), .ref (sz + 3), .ref (sz + 5)])), ?_, by rw [q_u2, si], fun b hb => ?_, q_up, ?_, ?_, ?_⟩
  · unfold fValue_init
    have w0 : (g_nw (G, sz) (.inr (1, [.int 0, .null, .null, .null]))).1 sz = _ := q_nw (z := (G, sz))
    rw [q_pF w0 (Nat.le_of_ble_eq_true rfl), Option.bind_some]
    have w1 : g_up (g_nw (G, sz) (.inr (1, [.int 0, .null, .null, .null]))) sz (.inr (1, List.set [.int 0, .null, .null, .null] 0 (.int v))) = za := by rw [ea]; exact q_un0 (z := (G, sz))
    rw [w1, show g_nwO za 0 [.null, .int 0] = some (sz + 1, g_nw za (.inr (0, [.null, .int 0]))) from by unfold g_nwO; rw [a2], q_bp rfl]
    have tn : tx (g_nw za (.inr (0, [.null, .int 0]))) a ra cap ys := ta.keep (q_nn (by omega)) (q_nn (by omega))
    rw [q_is tn.1, Option.bind_some, q_bp (tx_len tn n), eb, Option.bind_some, q_pF b0 (Nat.le_of_ble_eq_true rfl), Option.bind_some]
    change (g_fR (g_up zb sz (.inr (1, [.int v, .ref (sz + 1), .null, .null]))) sz 1 1).bind (fun r_9 => r_9.bind fun a_10 => (g_is (g_up zb sz (.inr (1, [.int v, .ref (sz + 1), .null, .null]))) a_10 0).bind fun _ => (fText_addAll n a_10 a (g_up zb sz (.inr (1, [.int v, .ref (sz + 1), .null, .null])))).bind _) = _
    rw [← ec, q_fR c0 (k := 1) (r := some (sz + 1)) rfl, Option.bind_some, Option.bind_some, q_is tc.1, Option.bind_some]
    have hadd : fText_addAll n (sz + 1) a zc = some zd := by unfold fText_addAll; rw [nI_0] at ed; exact ed
    have hturn : fValue_turned n a zd = some (some (sz + 3), zf) := by
      unfold fValue_turned
      rw [show g_nwO zd 0 [.null, .int 0] = some (sz + 3, g_nw zd (.inr (0, [.null, .int 0]))) from by unfold g_nwO; rw [sd], q_bp rfl]
      have tm : tx (g_nw zd (.inr (0, [.null, .int 0]))) a ra cap ys := tda.keep (q_nn (by omega)) (q_nn (by omega))
      rw [q_is tm.1, Option.bind_some, q_bp (tx_len tm n), ee, Option.bind_some, q_is tea.1, Option.bind_some, q_bp (tx_len tea n), ef]
    have hcodes : fValue_codesOf n a zg = some (some (sz + 5), zi) := by
      unfold fValue_codesOf
      rw [show g_nwO zg 0 [.null, .int 0] = some (sz + 5, g_nw zg (.inr (0, [.null, .int 0]))) from by unfold g_nwO; rw [g2], q_bp rfl]
      have tm : tx (g_nw zg (.inr (0, [.null, .int 0]))) a ra cap ys := tga.keep (q_nn (by omega)) (q_nn (by omega))
      rw [nI_0] at ei
      rw [q_is tm.1, Option.bind_some, q_bp (tx_len tm n), e2l, eh, Option.bind_some, ei]
    rw [hadd, Option.bind_some, q_bp hturn, q_pF f0 (Nat.le_of_ble_eq_true rfl), Option.bind_some]
    change g_bp (fValue_codesOf n a (g_up zf sz (.inr (1, [.int v, .ref (sz + 1), .ref (sz + 3), .null])))) _ = _
    rw [← eg, q_bp hcodes, q_pF i0 (Nat.le_of_ble_eq_true rfl), Option.bind_some]
    rfl
  · rw [q_un (by omega), iold _ (by omega), gold _ (by omega) (by omega), dold b hb]
  · refine td.keep ?_ ?_
    · rw [q_un (by omega), iold _ (by omega), gold _ (by omega) (by omega)]
    · rw [q_un (by omega), iold _ (by omega), gold _ (by omega) (by omega)]
  · refine tf.keep ?_ ?_
    · rw [q_un (by omega), iold _ (by omega), go _ (by omega)]
    · rw [q_un (by omega), iold _ (by omega), go _ (by omega)]
  · refine ti.keep ?_ ?_
    · rw [q_un (by omega)]
    · rw [q_un (by omega)]
