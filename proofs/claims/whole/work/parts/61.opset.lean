theorem RS.clear {iv : Nat → Int32} {fa : Nat → Nat → Int32} {sI : Nat → Nat → Int32} {sO : Nat → Nat → Option Nat} {sL : Nat → Nat → List Int32} {sN : Nat → Nat → Nat} {au : List (Int32 × Int32 × Int32)} (h : RS iv fa sI sO sL sN au) : RS (up1 iv 18 0) fa sI sO (ru sL 3 0 []) sN au := by
  obtain ⟨⟨a1, a2, a3, a4, a5, a6, a7, a8, a9⟩, b1, b2, b3, b4, b5, b6, b7, b8⟩ := h
  exact ⟨⟨a1, a2, a3, a4, a5, a6, rfl, a8, a9⟩, b1, b2, b3, fun j hj => by rw [ru_s] at hj; simp at hj, b5, b6, b7, b8⟩
theorem VS.clear {sI : Nat → Nat → Int32} {sO : Nat → Nat → Option Nat} {sL : Nat → Nat → List Int32} {sN : Nat → Nat → Nat} (h : VS sI sO sL sN) : VS sI sO (ru sL 3 0 []) sN := by
  obtain ⟨d1, d2, d3, d4⟩ := h
  exact ⟨d1, d2, fun x hx => by rw [ru_s] at hx; simp at hx, d4⟩
theorem r_copy {bd : Nat → Nat} {iv : Nat → Int32} {tp : List Int32} {V : Nat} (n : Nat) (s t : Int32) (hV : V < 24) (h3 : iv 3 = nI V) (hl : tp.length ≤ 12) : ∀ (k i : Nat) (fa : Nat → Nat → Int32) (z : gS), i ≤ tp.length → tp.length < i + k → R2 z bd iv fa → (∀ j, j < tp.length → tp[j]? = some (fa 17 j)) → ∃ (z1 : gS) (fa1 : Nat → Nat → Int32), fRef_set_L174 n k (bd 0) s t (nI tp.length) (nI i) z = fRef_set_L174 n 1 (bd 0) s t (nI tp.length) (nI tp.length) z1 ∧ R2 z1 bd iv fa1 ∧ z1.2 = z.2 ∧ (∀ q, q ≠ 9 → fa1 q = fa q) ∧ (∀ j, i ≤ j → j < tp.length → tp[j]? = some (fa1 9 (12 * V + j))) ∧ ∀ q, (q < 12 * V + i ∨ 12 * V + 12 ≤ q) → fa1 9 q = fa 9 q := by
  intro k
  induction k with
  | zero => intro i fa z q1 q2; omega
  | succ k ih =>
    intro i fa z q1 q2 hR htp
    by_cases c0 : tp.length ≤ i
    · have e : i = tp.length := by omega
      subst e
      refine ⟨z, fa, ?_, hR, rfl, fun _ _ => rfl, fun j a1 a2 => by omega, fun _ _ => rfl⟩
      rw [fRef_set_L174, fRef_set_L174, if_pos (Int32.le_refl _), if_pos (Int32.le_refl _)]
    · have e5 : (12 : Int32) * nI V + nI i = nI (12 * V + i) := by
        rw [show (12 : Int32) = nI 12 from rfl, pk_mul, nI_add]
      obtain ⟨z1, e1, hR1, hz1⟩ := r_st hR (k := 9) (ty := .int) (by unfold aK; omega) rfl (j := 12 * V + i) (by show _ < 288; omega) (fa 17 i)
      rw [fRef_set_L174, if_neg (fun q => c0 ((nI_leI (by omega) (by omega)).mp q)), r_R hR 9 rfl, Option.bind_some, r_I hR 3 rfl, h3, Option.bind_some, r_R hR 17 rfl, Option.bind_some, Option.bind_some, r_ld hR (k := 17) (ty := .int) (by unfold aK; omega) rfl (by show _ < 300; omega), Option.bind_some, Option.bind_some, e5, e1, Option.bind_some, nI_1]
      obtain ⟨z2, fa2, a1, a2, a3, a4, a5, a6⟩ := ih (i + 1) (ru fa 9 (12 * V + i) (fa 17 i)) z1 (by omega) (by omega) hR1 htp
      refine ⟨z2, fa2, a1, a2, a3.trans hz1, fun q hq => by rw [a4 q hq]; exact ru_f _ _ hq, fun j b1 b2 => ?_, fun q hq => ?_⟩
      · by_cases ej : j = i
        · subst ej
          rw [a6 _ (Or.inl (by omega)), ru_s]
          exact htp j b2
        · exact a5 j (by omega) b2
      · rw [a6 q (by omega), ru_i _ _ (by omega)]
theorem r_rot {z : gS} {bd : Nat → Nat} {iv : Nat → Int32} {fa : Nat → Nat → Int32} {tp : List Int32} {s t V S : Nat} (hR : R2 z bd iv fa) (n : Nat) (hn : 1000 < n) (hs : s < 10) (hV : V < 24) (i2 : iv 2 = nI S) (i3 : iv 3 = nI V) (hl : tp.length ≤ 12) (htp : ∀ j, j < tp.length → tp[j]? = some (fa 17 j)) :
    ∃ (z1 : gS) (fa1 : Nat → Nat → Int32), fRef_set_L91 n 1 (bd 0) (nI s) (nI t) (nI tp.length) (nI S) z = some (1, z1) ∧ R2 z1 bd (up1 iv 3 (nI (V + 1))) fa1 ∧ z1.2 = z.2 ∧ (∀ q, q ≠ 7 → q ≠ 8 → q ≠ 9 → q ≠ 13 → q ≠ 14 → q ≠ 15 → fa1 q = fa q) ∧ (∀ j, fa1 7 j = if j = V then nI s else fa 7 j) ∧ (∀ j, fa1 8 j = if j = V then nI tp.length else fa 8 j) ∧ (∀ j, j < tp.length → tp[j]? = some (fa1 9 (12 * V + j))) ∧ (∀ q, q < 12 * V → fa1 9 q = fa 9 q) ∧ (∀ j, fa1 13 j = if j = s then nI V else fa 13 j) ∧ (∀ j, fa1 14 j = if j = s ∧ fa 13 s ≠ -1 then fa 13 s else fa 14 j) ∧ (∀ j, fa1 15 j = if j = s ∧ fa 13 s ≠ -1 then iv 1 + nI t else fa 15 j) := by
  obtain ⟨z1, e1, hR1, hz1⟩ := r_st hR (k := 7) (ty := .int) (by unfold aK; omega) rfl (j := V) (by show V < 24; omega) (nI s)
  obtain ⟨z2, e2, hR2, hz2⟩ := r_st hR1 (k := 8) (ty := .int) (by unfold aK; omega) rfl (j := V) (by show V < 24; omega) (nI tp.length)
  obtain ⟨z3, fa3, e3, hR3, hz3, k3, m3, l3⟩ := r_copy (tp := tp) n (nI s) (nI t) hV i3 hl n 0 _ z2 (by omega) (by omega) hR2 (fun j hj => htp j hj)
  have f13 : fa3 13 s = fa 13 s := by rw [k3 13 (by omega), ru_t _ _ (by omega), ru_t _ _ (by omega)]
  have beg : ∀ R, (if fa 13 s = -1 then fRef_set_J242 n (bd 0) (nI s) z3 else (g_fR z3 (bd 0) 9 14).bind fun r_52 => (some (some (bd 13))).bind fun r_53 => r_53.bind fun a_54 => (g_ldI z3 .int a_54 (nI s)).bind fun v_55 => r_52.bind fun a_56 => (g_stI z3 .int a_56 (nI s) v_55).bind fun z_57 => (g_fR z_57 (bd 0) 9 15).bind fun r_58 => (g_fI z_57 (bd 0) 9 1).bind fun v_59 => r_58.bind fun a_60 => (g_stI z_57 .int a_60 (nI s) (v_59 + nI t)).bind fun z_61 => fRef_set_J242 n (bd 0) (nI s) z_61) = R → fRef_set_L91 n 1 (bd 0) (nI s) (nI t) (nI tp.length) (nI S) z = R := by
    intro R q
    rw [fRef_set_L91, r_I hR 2 rfl, i2, Option.bind_some, if_pos (Int32.le_refl _), r_I hR 3 rfl, i3, Option.bind_some, if_neg (show ¬ nI V = 24 from fun w => absurd ((nI_eq (b := 24) (by omega) (by omega)).mp w) (by omega)), r_R hR 7 rfl, Option.bind_some, Option.bind_some, Option.bind_some, e1, Option.bind_some, r_R hR1 8 rfl, Option.bind_some, r_I hR1 3 rfl, i3, Option.bind_some, Option.bind_some, e2, Option.bind_some]
    rw [nI_0] at e3
    rw [e3, fRef_set_L174, if_pos (Int32.le_refl _), r_R hR3 13 rfl, Option.bind_some, Option.bind_some, r_ld hR3 (k := 13) (ty := .int) (by unfold aK; omega) rfl (by show s < 10; omega), f13, Option.bind_some]
    exact q
  have fin : ∀ (y : gS) (fb : Nat → Nat → Int32), R2 y bd iv fb → ∃ y1 : gS, fRef_set_J242 n (bd 0) (nI s) y = some (1, y1) ∧ R2 y1 bd (up1 iv 3 (nI (V + 1))) (ru fb 13 s (nI V)) ∧ y1.2 = y.2 := by
    intro y fb hy
    obtain ⟨y1, c1, hy1, s1⟩ := r_st hy (k := 13) (ty := .int) (by unfold aK; omega) rfl (j := s) (by show s < 10; omega) (nI V)
    obtain ⟨y2, c2, hy2, s2⟩ := r_p3 hy1 (nI (V + 1))
    refine ⟨y2, ?_, hy2, s2.trans s1⟩
    unfold fRef_set_J242
    rw [r_R hy 13 rfl, Option.bind_some, r_I hy 3 rfl, i3, Option.bind_some, Option.bind_some, c1, Option.bind_some, r_I hy1 3 rfl, i3, Option.bind_some, nI_1, c2, Option.bind_some]
  have g7 : ∀ j, fa3 7 j = if j = V then nI s else fa 7 j := fun j => by
    rw [k3 7 (by omega), ru_t _ _ (by omega)]
    by_cases q : j = V
    · rw [q, ru_s, if_pos rfl]
    · rw [ru_i _ _ q, if_neg q]
  have g8 : ∀ j, fa3 8 j = if j = V then nI tp.length else fa 8 j := fun j => by
    rw [k3 8 (by omega)]
    by_cases q : j = V
    · rw [q, ru_s, if_pos rfl]
    · rw [ru_i _ _ q, if_neg q, ru_t _ _ (by omega)]
  have g9 : ∀ q, q < 12 * V → fa3 9 q = fa 9 q := fun q hq => by
    rw [l3 q (Or.inl (by omega)), ru_t _ _ (by omega), ru_t _ _ (by omega)]
  have go : ∀ q, q ≠ 7 → q ≠ 8 → q ≠ 9 → fa3 q = fa q := fun q a b c => by
    rw [k3 q c, ru_f _ _ b, ru_f _ _ a]
  have h13 : ∀ (fb : Nat → Nat → Int32), fb 13 = fa 13 → ∀ j, ru fb 13 s (nI V) 13 j = if j = s then nI V else fa 13 j := fun fb hb j => by
    by_cases q : j = s
    · rw [q, ru_s, if_pos rfl]
    · rw [ru_i _ _ q, if_neg q, hb]
  by_cases c : fa 13 s = -1
  · obtain ⟨z4, e4, hR4, hz4⟩ := fin z3 fa3 hR3
    refine ⟨z4, _, beg _ (by rw [if_pos c, e4]), hR4, ?_, fun q a b d e f g => ?_, fun j => ?_, fun j => ?_, fun j hj => ?_, fun q hq => ?_, h13 fa3 (go 13 (by omega) (by omega) (by omega)), fun j => ?_, fun j => ?_⟩
    · rw [hz4, hz3, hz2, hz1]
    · rw [ru_f _ _ e, go q a b d]
    · rw [ru_t _ _ (by omega), g7 j]
    · rw [ru_t _ _ (by omega), g8 j]
    · rw [ru_t _ _ (by omega)]; exact m3 j (by omega) hj
    · rw [ru_t _ _ (by omega), g9 q hq]
    · rw [ru_t _ _ (by omega), go 14 (by omega) (by omega) (by omega), if_neg (fun q => q.2 c)]
    · rw [ru_t _ _ (by omega), go 15 (by omega) (by omega) (by omega), if_neg (fun q => q.2 c)]
  · obtain ⟨z4, e4, hR4, hz4⟩ := r_st hR3 (k := 14) (ty := .int) (by unfold aK; omega) rfl (j := s) (by show s < 10; omega) (fa 13 s)
    obtain ⟨z5, e5, hR5, hz5⟩ := r_st hR4 (k := 15) (ty := .int) (by unfold aK; omega) rfl (j := s) (by show s < 10; omega) (iv 1 + nI t)
    obtain ⟨z6, e6, hR6, hz6⟩ := fin z5 _ hR5
    refine ⟨z6, _, beg _ ?_, hR6, ?_, fun q a b d e f g => ?_, fun j => ?_, fun j => ?_, fun j hj => ?_, fun q hq => ?_, h13 _ ?_, fun j => ?_, fun j => ?_⟩
    · rw [if_neg c, r_R hR3 14 rfl, Option.bind_some, Option.bind_some, Option.bind_some, r_ld hR3 (k := 13) (ty := .int) (by unfold aK; omega) rfl (by show s < 10; omega), f13, Option.bind_some, Option.bind_some, e4, Option.bind_some, r_R hR4 15 rfl, Option.bind_some, r_I hR4 1 rfl, Option.bind_some, Option.bind_some, e5, Option.bind_some, e6]
    · rw [hz6, hz5, hz4, hz3, hz2, hz1]
    · rw [ru_f _ _ e, ru_f _ _ g, ru_f _ _ f, go q a b d]
    · rw [ru_t _ _ (by omega), ru_t _ _ (by omega), ru_t _ _ (by omega), g7 j]
    · rw [ru_t _ _ (by omega), ru_t _ _ (by omega), ru_t _ _ (by omega), g8 j]
    · rw [ru_t _ _ (by omega), ru_t _ _ (by omega), ru_t _ _ (by omega)]; exact m3 j (by omega) hj
    · rw [ru_t _ _ (by omega), ru_t _ _ (by omega), ru_t _ _ (by omega), g9 q hq]
    · rw [ru_f _ _ (by omega), ru_f _ _ (by omega), go 13 (by omega) (by omega) (by omega)]
    · rw [ru_t _ _ (by omega), ru_t _ _ (by omega)]
      by_cases q : j = s
      · rw [q, ru_s, if_pos ⟨rfl, c⟩]
      · rw [ru_i _ _ q, if_neg (fun w => q w.1), go 14 (by omega) (by omega) (by omega)]
    · rw [ru_t _ _ (by omega)]
      by_cases q : j = s
      · rw [q, ru_s, if_pos ⟨rfl, c⟩]
      · rw [ru_i _ _ q, if_neg (fun w => q w.1), ru_t _ _ (by omega), go 15 (by omega) (by omega) (by omega)]
theorem op_set (n x y : Nat) (hn : 1000 < n) : OP_set n x y (Sim x y) := by
  intro G1 G2 sz v0 v1 hS
  obtain ⟨ad, ce, bd, iv, fa, sI, sO, sL, sN, au, rfl, rfl, hC, hR, hRS, hV⟩ := hS
  have hm := c_m hC
  have hnS := hC.nS
  have hnV := hC.nV
  have ht := hC.tpx
  have hlen : (sL 3 0).length ≤ 300 := ht.2.1
  -- the reference's beginning, from any size
  have RB : ∀ s9, sz ≤ s9 → ∃ z3 : gS, R2 z3 bd (up1 (up1 iv 0 0) 18 0) fa ∧ z3.2 = s9 ∧ ∀ R, (g_bp (fRef_isSecret n (bd 0) v0 z3) fun v_6 z_5 => if v_6 = 0 then some (-1, z_5) else (g_fR z_5 (bd 0) 9 16).bind fun r_8 => r_8.bind fun a_9 => (g_ldI z_5 .boolean a_9 v0).bind fun v_10 => if v_10 = 0 then (if v1 < 0 then some (-1, z_5) else if v1 ≤ 100000 then (if nI (sL 3 0).length < 4 then some (-2, z_5) else if nI (sL 3 0).length ≤ 12 then fRef_set_L61 n n (bd 0) v0 v1 (nI (sL 3 0).length) 0 z_5 else some (-2, z_5)) else some (-1, z_5)) else some (-1, z_5)) = R → fRef_set n (bd 0) v0 v1 (G2, s9) = R := by
    intro s9 h9
    obtain ⟨z2, e2, hR2, hz2⟩ := r_p0 (R2.sz hR h9) 0
    obtain ⟨z3, e3, hR3, hz3⟩ := r_p18 hR2 0
    refine ⟨z3, hR3, hz3.trans hz2, fun R q => ?_⟩
    unfold fRef_set
    have i18 : g_fI z2 (bd 0) 9 18 = some (nI (sL 3 0).length) := by rw [r_I hR2 18 rfl]; exact congrArg some hRS.1.2.2.2.2.2.2.1
    rw [e2, Option.bind_some, i18, Option.bind_some, e3, Option.bind_some, r_is hR3, Option.bind_some]
    exact q
  have hRS3 : RS (up1 (up1 iv 0 0) 18 0) fa sI sO (ru sL 3 0 []) sN au := (hRS.code 0).clear
  obtain ⟨y3, hY3, sY3, RY3⟩ := RB sz (Nat.le_refl _)
  have i2 : (up1 (up1 iv 0 0) 18 0) 2 = nI (sN 0 0) := hRS.1.2.1
  -- a refused call
  have fail : ∀ (code : Int32) (r : Option Nat), fMain_findSecret n (ad 0 0) v0 (G1, sz) = some (r, (G1, sz)) → fMain_setFromTape n (ad 0 0) r v1 (G1, sz) = some (code, (G1, sz)) → fRef_set n (bd 0) v0 v1 (G2, sz) = some (code, y3) → ∃ (r : Int32) (z1 z2 : gS), fMain_set n (ad 0 0) v0 v1 (G1, sz) = some (r, z1) ∧ fRef_set n (bd 0) v0 v1 (G2, z1.2) = some (r, z2) ∧ Sim (ad 0 0) (bd 0) z1.1 z2.1 z2.2 := by
    intro code r q1 q2 q3
    obtain ⟨z1, e1, t1, s1, o1⟩ := tx_clear ht n
    obtain ⟨ce', hC'⟩ := hC.tape t1 s1 o1
    have A : fMain_set n (ad 0 0) v0 v1 (G1, sz) = some (code, z1) := by
      unfold fMain_set
      rw [q_is hm, Option.bind_some, q_bp q1, q_is hm, Option.bind_some, q_bp q2, q_fR hm (k := 4) (r := some (ad 6 0)) rfl, Option.bind_some, Option.bind_some, q_is ht.1, Option.bind_some, e1, Option.bind_some]
    exact ⟨code, z1, y3, A, by rw [s1]; exact q3, sim_mk rfl rfl hC' hY3 (sY3.trans s1.symm) hRS3 hV.clear⟩
  rcases i_ix v0 (n := sN 0 0) (by omega) with h | ⟨s, hs, rfl⟩
  · exact fail (-1) none (fs_none hC n h) rfl (RY3 _ (by rw [q_bp (is_0 hY3 i2 n h), if_pos rfl]))
  have hse := hC.sec hs
  obtain ⟨-, -, b2, -⟩ := id hRS
  obtain ⟨-, -, -, f13, f14, -, f16⟩ := b2 s hs
  have hf := fs_some hC n hs
  have pre : ∀ R, (if sI 4 s = 0 then (if v1 < 0 then some (-1, (G1, sz)) else if v1 ≤ 100000 then ((g_is (G1, sz) (ad 0 0) 8).bind fun _ => g_bp (fMain_tapeCanBeValue n (ad 0 0) (G1, sz)) fun v_8 z_7 => if v_8 = 0 then some (-2, z_7) else (g_is z_7 (ad 0 0) 8).bind fun _ => g_bp (fMain_tapeIsHad n (ad 0 0) z_7) fun v_12 z_11 => if v_12 = 0 then ((g_fI z_11 (ad 0 0) 8 9).bind fun v_14 => if v_14 < 24 then (g_bp (g_nwO z_11 1 [.int 0, .null, .null, .null]) fun a_16 z_17 => (g_fI z_17 (ad 0 0) 8 9).bind fun v_18 => (g_fR z_17 (ad 0 0) 8 4).bind fun r_19 => r_19.bind fun a_20 => (fValue_init n a_16 v_18 a_20 z_17).bind fun z_21 => (g_fI z_21 (ad 0 0) 8 10).bind fun v_22 => (g_is z_21 (ad 13 s) 2).bind fun _ => (fSecret_rotate n (ad 13 s) a_16 (v_22 + v1) z_21).bind fun z_24 => (g_fI z_24 (ad 0 0) 8 9).bind fun v_25 => (g_pF z_24 (ad 0 0) 8 9 (.int (v_25 + 1))).bind fun z_26 => some (1, z_26)) else some (-4, z_11)) else some (-3, z_11)) else some (-1, (G1, sz))) else some (-1, (G1, sz))) = R → fMain_setFromTape n (ad 0 0) (some (ad 13 s)) v1 (G1, sz) = R := by
    intro R q
    unfold fMain_setFromTape
    simp only [g_n]
    rw [q_fI hse (k := 6) (x := sI 4 s) rfl, Option.bind_some]
    exact q
  have preR : ∀ z3 : gS, R2 z3 bd (up1 (up1 iv 0 0) 18 0) fa → ∀ R, (if sI 4 s = 0 then (if v1 < 0 then some (-1, z3) else if v1 ≤ 100000 then (if nI (sL 3 0).length < 4 then some (-2, z3) else if nI (sL 3 0).length ≤ 12 then fRef_set_L61 n n (bd 0) (nI s) v1 (nI (sL 3 0).length) 0 z3 else some (-2, z3)) else some (-1, z3)) else some (-1, z3)) = R → (g_bp (fRef_isSecret n (bd 0) (nI s) z3) fun v_6 z_5 => if v_6 = 0 then some (-1, z_5) else (g_fR z_5 (bd 0) 9 16).bind fun r_8 => r_8.bind fun a_9 => (g_ldI z_5 .boolean a_9 (nI s)).bind fun v_10 => if v_10 = 0 then (if v1 < 0 then some (-1, z_5) else if v1 ≤ 100000 then (if nI (sL 3 0).length < 4 then some (-2, z_5) else if nI (sL 3 0).length ≤ 12 then fRef_set_L61 n n (bd 0) (nI s) v1 (nI (sL 3 0).length) 0 z_5 else some (-2, z_5)) else some (-1, z_5)) else some (-1, z_5)) = R := by
    intro z3 h3 R q
    rw [q_bp (is_1 h3 i2 n hs hnS), if_neg (by decide), r_R h3 16 rfl, Option.bind_some, Option.bind_some, r_ld h3 (k := 16) (ty := .boolean) (by unfold aK; omega) rfl (by show s < 10; omega), f16, Option.bind_some]
    exact q
  by_cases c0 : sI 4 s = 0
  case neg => exact fail (-1) _ hf (pre _ (by rw [if_neg c0])) (RY3 _ (preR _ hY3 _ (by rw [if_neg c0])))
  by_cases c1 : v1 < 0
  · exact fail (-1) _ hf (pre _ (by rw [if_pos c0, if_pos c1])) (RY3 _ (preR _ hY3 _ (by rw [if_pos c0, if_pos c1])))
  by_cases c2 : v1 ≤ 100000
  case neg => exact fail (-1) _ hf (pre _ (by rw [if_pos c0, if_neg c1, if_neg c2])) (RY3 _ (preR _ hY3 _ (by rw [if_pos c0, if_neg c1, if_neg c2])))
  obtain ⟨t, ht1, rfl⟩ := nI_of2 (M := 100000) (n := 100000) (by decide) c1 c2
  have cb := c_canBe hC n hn
  -- the reference's loops, at any such state
  have htp : ∀ j, j < (sL 3 0).length → (sL 3 0)[j]? = some (fa 17 j) := hRS.2.2.2.2.1
  have R61 : ∀ z3 : gS, R2 z3 bd (up1 (up1 iv 0 0) 18 0) fa → ∀ k i, i ≤ (sL 3 0).length → (sL 3 0).length < i + k → fRef_set_L61 n k (bd 0) (nI s) (nI t) (nI (sL 3 0).length) (nI i) z3 = if (32 : Int32) ∈ (sL 3 0).drop i then some (-2, z3) else fRef_set_L91 n n (bd 0) (nI s) (nI t) (nI (sL 3 0).length) 0 z3 := by
    intro z3 h3 k
    induction k with
    | zero => intro i q1 q2; omega
    | succ k ih =>
      intro i q1 q2
      rw [fRef_set_L61]
      by_cases d0 : (sL 3 0).length ≤ i
      · rw [if_pos ((nI_leI (by omega) (by omega)).mpr d0), List.drop_eq_nil_of_le d0, if_neg (by simp)]
      · have h2 : i < (sL 3 0).length := by omega
        have x2 := htp i h2
        rw [List.getElem?_eq_getElem h2] at x2
        rw [if_neg (fun q => d0 ((nI_leI (by omega) (by omega)).mp q)), r_R h3 17 rfl, Option.bind_some, Option.bind_some, r_ld h3 (k := 17) (ty := .int) (by unfold aK; omega) rfl (by show _ < 300; omega), Option.bind_some, nI_1, ih (i + 1) (by omega) (by omega), List.drop_eq_getElem_cons h2, Option.some.inj x2]
        by_cases d1 : fa 17 i = 32
        · rw [if_pos d1, if_pos (by rw [d1]; exact List.mem_cons_self)]
        · rw [if_neg d1]
          have e : (32 : Int32) ∈ fa 17 i :: (sL 3 0).drop (i + 1) ↔ (32 : Int32) ∈ (sL 3 0).drop (i + 1) := by
            rw [List.mem_cons]
            exact ⟨fun h => h.resolve_left (fun q => d1 q.symm), Or.inr⟩
          simp only [e]
  have R61' : ∀ z3 : gS, R2 z3 bd (up1 (up1 iv 0 0) 18 0) fa → fRef_set_L61 n n (bd 0) (nI s) (nI t) (nI (sL 3 0).length) 0 z3 = if (32 : Int32) ∈ sL 3 0 then some (-2, z3) else fRef_set_L91 n n (bd 0) (nI s) (nI t) (nI (sL 3 0).length) 0 z3 := by
    intro z3 h3
    have := R61 z3 h3 n 0 (by omega) (by omega)
    rw [nI_0, List.drop_zero] at this
    exact this
  by_cases c3 : 4 ≤ (sL 3 0).length ∧ (sL 3 0).length ≤ 12 ∧ (32 : Int32) ∉ sL 3 0
  case neg =>
    refine fail (-2) _ hf (pre _ ?_) (RY3 _ (preR _ hY3 _ ?_))
    · rw [if_pos c0, if_neg c1, if_pos c2, q_is hm, Option.bind_some, q_bp cb, if_neg c3, if_pos rfl]
    · rw [if_pos c0, if_neg c1, if_pos c2]
      by_cases d0 : (sL 3 0).length < 4
      · rw [if_pos (show nI (sL 3 0).length < 4 from (nI_ltI (b := 4) (by omega) (by omega)).mpr d0)]
      · rw [if_neg (show ¬ nI (sL 3 0).length < 4 from fun q => d0 ((nI_ltI (b := 4) (by omega) (by omega)).mp q))]
        by_cases d1 : (sL 3 0).length ≤ 12
        · rw [if_pos (show nI (sL 3 0).length ≤ 12 from (nI_leI (b := 12) (by omega) (by omega)).mpr d1), R61' _ hY3, if_pos]
          apply Classical.byContradiction
          intro q
          exact c3 ⟨by omega, d1, q⟩
        · rw [if_neg (show ¬ nI (sL 3 0).length ≤ 12 from fun q => d1 ((nI_leI (b := 12) (by omega) (by omega)).mp q))]
  obtain ⟨l4, l12, nbl⟩ := c3
  have ih0 := c_isHad hC hV n hn
  have cb1 : fMain_tapeCanBeValue n (ad 0 0) (G1, sz) = some (1, (G1, sz)) := by rw [cb, if_pos ⟨l4, l12, nbl⟩]
  have hb12 : ∀ v, v < sN 0 3 → (sL 0 v).length ≤ 12 := fun v hv => (hV.2.2.2.1 v hv).2.1
  have r4 : ¬ nI (sL 3 0).length < 4 := fun q => absurd ((nI_ltI (b := 4) (by omega) (by omega)).mp q) (by omega)
  have r12 : nI (sL 3 0).length ≤ 12 := (nI_leI (b := 12) (by omega) (by omega)).mpr l12
  have R91 : ∀ z3 : gS, R2 z3 bd (up1 (up1 iv 0 0) 18 0) fa → ∀ k q, q ≤ sN 0 0 → sN 0 0 < q + k → fRef_set_L91 n k (bd 0) (nI s) (nI t) (nI (sL 3 0).length) (nI q) z3 = if hdL (hdS sO sL (sL 3 0)) (sN 0 0 - q) q then some (-3, z3) else fRef_set_L91 n 1 (bd 0) (nI s) (nI t) (nI (sL 3 0).length) (nI (sN 0 0)) z3 := by
    intro z3 h3 k
    induction k with
    | zero => intro q q1 q2; omega
    | succ k ih =>
      intro q q1 q2
      by_cases d0 : sN 0 0 ≤ q
      · have e : q = sN 0 0 := by omega
        subst e
        rw [show sN 0 0 - sN 0 0 = 0 by omega, hdL, if_neg (by simp), fRef_set_L91, fRef_set_L91, r_I h3 2 rfl, i2, Option.bind_some, if_pos (Int32.le_refl _), Option.bind_some, if_pos (Int32.le_refl _)]
      · have hq : q < sN 0 0 := by omega
        obtain ⟨-, -, -, x13, x14, -⟩ := b2 q hq
        obtain ⟨-, p2, p3, -⟩ := hV.2.2.2.2.1 q hq
        have T1 := r_taped h3 hRS3 (tp := sL 3 0) htp l12 hb12 hnV n hn (sO 0 q) (fun v hv => (p2 v hv).1)
        have T2 := r_taped h3 hRS3 (tp := sL 3 0) htp l12 hb12 hnV n hn (sO 1 q) (fun v hv => (p3 v hv).1)
        rw [fRef_set_L91, r_I h3 2 rfl, i2, Option.bind_some, if_neg (fun w => d0 ((nI_leI (by omega) (by omega)).mp w)), r_R h3 13 rfl, Option.bind_some, Option.bind_some, r_ld h3 (k := 13) (ty := .int) (by unfold aK; omega) rfl (by show q < 10; omega), x13, Option.bind_some, r_is h3, Option.bind_some, q_bp T1, show sN 0 0 - q = (sN 0 0 - (q + 1)) + 1 by omega, hdL]
        change (if (if hO sL (sL 3 0) (sO 0 q) then (1 : Int32) else 0) = 0 then _ else _) = _
        by_cases d1 : hO sL (sL 3 0) (sO 0 q) = true
        · rw [if_pos d1, if_neg (by decide), if_pos (by unfold hdS; rw [d1]; rfl)]
        · rw [if_neg d1, if_pos rfl, r_R h3 14 rfl, Option.bind_some, Option.bind_some, r_ld h3 (k := 14) (ty := .int) (by unfold aK; omega) rfl (by show q < 10; omega), x14, Option.bind_some, r_is h3, Option.bind_some, q_bp T2, nI_1, ih (q + 1) (by omega) (by omega)]
          change (if (if hO sL (sL 3 0) (sO 1 q) then (1 : Int32) else 0) = 0 then _ else _) = _
          have d1' : hO sL (sL 3 0) (sO 0 q) = false := by simpa using d1
          by_cases d2 : hO sL (sL 3 0) (sO 1 q) = true
          · rw [if_pos d2, if_neg (by decide), if_pos (by unfold hdS; rw [d1', d2]; rfl)]
          · have d2' : hO sL (sL 3 0) (sO 1 q) = false := by simpa using d2
            rw [if_neg d2, if_pos rfl, show hdS sO sL (sL 3 0) q = false from by unfold hdS; rw [d1', d2']; rfl, Bool.false_or]
  have R91' : ∀ z3 : gS, R2 z3 bd (up1 (up1 iv 0 0) 18 0) fa → fRef_set_L91 n n (bd 0) (nI s) (nI t) (nI (sL 3 0).length) 0 z3 = if hdL (hdS sO sL (sL 3 0)) (sN 0 0) 0 then some (-3, z3) else fRef_set_L91 n 1 (bd 0) (nI s) (nI t) (nI (sL 3 0).length) (nI (sN 0 0)) z3 := by
    intro z3 h3
    have := R91 z3 h3 n 0 (by omega) (by omega)
    rw [nI_0] at this
    exact this
  by_cases c4 : hdL (hdS sO sL (sL 3 0)) (sN 0 0) 0 = true
  · refine fail (-3) _ hf (pre _ ?_) (RY3 _ (preR _ hY3 _ ?_))
    · have ih1 : fMain_tapeIsHad n (ad 0 0) (G1, sz) = some (1, (G1, sz)) := by rw [ih0, if_pos c4]
      rw [if_pos c0, if_neg c1, if_pos c2, q_is hm, Option.bind_some, q_bp cb1, if_neg (by decide), q_is hm, Option.bind_some, q_bp ih1, if_neg (by decide)]
    · rw [if_pos c0, if_neg c1, if_pos c2, if_neg r4, if_pos r12, R61' _ hY3, if_neg nbl, R91' _ hY3, if_pos c4]
  have ih1 : fMain_tapeIsHad n (ad 0 0) (G1, sz) = some (0, (G1, sz)) := by rw [ih0, if_neg c4]
  by_cases c5 : sN 0 3 = 24
  · refine fail (-4) _ hf (pre _ ?_) (RY3 _ (preR _ hY3 _ ?_))
    · rw [if_pos c0, if_neg c1, if_pos c2, q_is hm, Option.bind_some, q_bp cb1, if_neg (by decide), q_is hm, Option.bind_some, q_bp ih1, if_pos rfl, q_fI hm (k := 9) (x := nI (sN 0 3)) rfl, Option.bind_some, if_neg (show ¬ nI (sN 0 3) < 24 from fun q => absurd ((nI_ltI (b := 24) (by omega) (by omega)).mp q) (by omega))]
    · rw [if_pos c0, if_neg c1, if_pos c2, if_neg r4, if_pos r12, R61' _ hY3, if_neg nbl, R91' _ hY3, if_neg c4, fRef_set_L91, r_I hY3 2 rfl, i2, Option.bind_some, if_pos (Int32.le_refl _), r_I hY3 3 rfl, show (up1 (up1 iv 0 0) 18 0) 3 = nI (sN 0 3) from hRS.1.2.2.1, c5, Option.bind_some, if_pos (show nI 24 = 24 from rfl)]
  -- it is set
  obtain ⟨V, hVn⟩ : ∃ V, V = sN 0 3 := ⟨_, rfl⟩
  have hV24 : V < 24 := by omega
  obtain ⟨d1, d2, d3, d4, d5, d6, d7⟩ := id hV
  obtain ⟨e1, e2, e3, cT, e4, e5⟩ := d5 s hs
  obtain ⟨cl, hcl, ecl⟩ := d1
  obtain ⟨o1, t1, hot⟩ : ∃ (o1 : Option Nat) (t1 : Int32), (sO 0 s = none ∧ o1 = sO 1 s ∧ t1 = sI 3 s) ∨ ∃ w, sO 0 s = some w ∧ o1 = some w ∧ t1 = sI 7 0 + nI t := by
    cases eo : sO 0 s with
    | none => exact ⟨_, _, Or.inl ⟨rfl, rfl, rfl⟩⟩
    | some w => exact ⟨_, _, Or.inr ⟨w, rfl, rfl, rfl⟩⟩
  have ho1 : ∀ w, o1 = some w → w < V ∧ sN 5 w = s := by
    intro w hw
    rcases hot with ⟨q1, q2, q3⟩ | ⟨w', q1, q2, q3⟩
    · rw [q2] at hw
      obtain ⟨p1, p2, -⟩ := e3 w hw
      exact ⟨by omega, p2⟩
    · rw [q2] at hw
      have hw := Option.some.inj hw
      obtain ⟨p1, p2⟩ := e2 w' q1
      exact ⟨by omega, by rw [← hw]; exact p2⟩
  obtain ⟨z1, ad', ce', A1, s1, e00, e60, hC1⟩ := c_rot hC hV n hn (t := t) hs hVn hV24 l12 o1 t1 hot (fun w hw => (ho1 w hw).1)
  have ht1' := hC1.tpx
  obtain ⟨z2, A2, t2, s2, o2⟩ := tx_clear ht1' n
  obtain ⟨ce2, hC2⟩ := hC1.tape t2 s2 o2
  have A : fMain_set n (ad 0 0) (nI s) (nI t) (G1, sz) = some (1, z2) := by
    unfold fMain_set
    have hm1 := c_m hC1
    rw [e00] at hm1
    have fT : fMain_setFromTape n (ad 0 0) (some (ad 13 s)) (nI t) (G1, sz) = some (1, z1) := by
      refine pre _ ?_
      rw [if_pos c0, if_neg c1, if_pos c2, q_is hm, Option.bind_some, q_bp cb1, if_neg (by decide), q_is hm, Option.bind_some, q_bp ih1, if_pos rfl, q_fI hm (k := 9) (x := nI (sN 0 3)) rfl, Option.bind_some, if_pos (show nI (sN 0 3) < 24 from (nI_ltI (b := 24) (by omega) (by omega)).mpr (by omega))]
      exact A1
    rw [q_is hm, Option.bind_some, q_bp hf, q_is hm, Option.bind_some, q_bp fT, q_fR hm1 (k := 4) (r := some (ad' 6 0)) rfl, Option.bind_some, Option.bind_some, q_is ht1'.1, Option.bind_some, A2, Option.bind_some]
  obtain ⟨w3, hW3, sW3, RW3⟩ := RB (sz + 7) (by omega)
  have i3 : (up1 (up1 iv 0 0) 18 0) 3 = nI V := by rw [hVn]; exact hRS.1.2.2.1
  have i1 : (up1 (up1 iv 0 0) 18 0) 1 = sI 7 0 := hRS.1.1
  obtain ⟨w4, fa1, B4, hW4, sW4, k0, k7, k8, k9, k9', k13, k14, k15⟩ := r_rot (t := t) hW3 n hn (s := s) (by omega) hV24 i2 i3 l12 htp
  have B : fRef_set n (bd 0) (nI s) (nI t) (G2, sz + 7) = some (1, w4) := by
    refine RW3 _ (preR _ hW3 _ ?_)
    rw [if_pos c0, if_neg c1, if_pos c2, if_neg r4, if_pos r12, R61' _ hW3, if_neg nbl, R91' _ hW3, if_neg c4]
    exact B4
  refine ⟨1, z2, w4, A, by rw [s2, s1]; exact B, sim_mk e00.symm rfl hC2 hW4 (by rw [sW4, sW3, s2, s1]) ?_ ?_⟩
  · obtain ⟨⟨a1, a2, a3, a4, a5, a6, a7, a8, a9⟩, c1, c2', c3, c4', c5', c6, c7, c8⟩ := hRS
    refine ⟨⟨?_, ?_, ?_, ?_, ?_, ?_, ?_, ?_, ?_⟩, ?_, ?_, ?_, ?_, ?_, ?_, ?_, ?_⟩
    · rw [ru_t _ _ (by omega)]; exact a1
    · rw [ru_t _ _ (by omega), ru_i _ _ (by omega)]; exact a2
    · rw [ru_t _ _ (by omega), ru_s]; rfl
    · rw [ru_t _ _ (by omega), ru_i _ _ (by omega)]; exact a4
    · rw [ru_t _ _ (by omega), ru_i _ _ (by omega)]; exact a5
    · exact a6
    · rw [ru_s]; rfl
    · rw [ru_t _ _ (by omega)]; exact a8
    · rw [ru_t _ _ (by omega), ru_t _ _ (by omega), ru_t _ _ (by omega)]; exact a9
    · rw [show ru (ru sN 0 3 (V + 1)) 5 V s 0 3 = V + 1 from by rw [ru_t _ _ (by omega), ru_s]]
      intro v hv
      rw [k7, k8, ru_t (ru sL 0 V (sL 3 0)) _ (by omega)]
      by_cases q : v = V
      · rw [q, if_pos rfl, if_pos rfl, ru_s, ru_s]
        exact ⟨rfl, rfl, k9⟩
      · rw [if_neg q, if_neg q, ru_i _ _ q, ru_i _ _ q, ru_t _ _ (by omega)]
        obtain ⟨p1, p2, p3⟩ := c1 v (by omega)
        have hb := hb12 v (by omega)
        exact ⟨p1, p2, fun j hj => by rw [k9' _ (by omega)]; exact p3 j hj⟩
    · rw [show ru (ru sN 0 3 (V + 1)) 5 V s 0 0 = sN 0 0 from by rw [ru_t _ _ (by omega), ru_i _ _ (by omega)]]
      intro q hq
      rw [k0 10 (by omega) (by omega) (by omega) (by omega) (by omega) (by omega), k0 11 (by omega) (by omega) (by omega) (by omega) (by omega) (by omega), k0 12 (by omega) (by omega) (by omega) (by omega) (by omega) (by omega), k0 16 (by omega) (by omega) (by omega) (by omega) (by omega) (by omega), k13, k14, k15]
      rw [ru_t sI _ (show (0 : Nat) ≠ 3 by omega), ru_t sI _ (show (1 : Nat) ≠ 3 by omega), ru_t sI _ (show (2 : Nat) ≠ 3 by omega), ru_t sI _ (show (4 : Nat) ≠ 3 by omega), ru_t (ru sO 1 s o1) _ (show (1 : Nat) ≠ 0 by omega)]
      obtain ⟨p1, p2, p3, p4, p5, p6, p7⟩ := c2' q hq
      refine ⟨p1, p2, p3, ?_, ?_, ?_, p7⟩
      · by_cases w : q = s
        · rw [w, if_pos rfl, ru_s]; rfl
        · rw [if_neg w, ru_i _ _ w, ru_t _ _ (by omega)]; exact p4
      · by_cases w : q = s
        · subst w
          rw [ru_s]
          rcases hot with ⟨q1, q2, q3⟩ | ⟨w', q1, q2, q3⟩
          · rw [if_neg (fun w => w.2 (by rw [p4, q1]; rfl)), q2]; exact p5
          · rw [if_pos ⟨rfl, by rw [p4, q1]; exact fun w => nI_pos (show w' < 2 ^ 31 by have := (e2 w' q1).1; omega) (by rw [show nI w' = -1 from w]; decide)⟩, p4, q1, q2]
        · rw [if_neg (fun q => w q.1), ru_i _ _ w]; exact p5
      · by_cases w : q = s
        · subst w
          rw [ru_s]
          rcases hot with ⟨q1, q2, q3⟩ | ⟨w', q1, q2, q3⟩
          · rw [if_neg (fun w => w.2 (by rw [p4, q1]; rfl)), q3]; exact p6
          · rw [if_pos ⟨rfl, by rw [p4, q1]; exact fun w => nI_pos (show w' < 2 ^ 31 by have := (e2 w' q1).1; omega) (by rw [show nI w' = -1 from w]; decide)⟩, i1, q3]
        · rw [if_neg (fun q => w q.1), ru_i _ _ w]; exact p6
    · rw [show ru (ru sN 0 3 (V + 1)) 5 V s 0 0 = sN 0 0 from by rw [ru_t _ _ (by omega), ru_i _ _ (by omega)]]
      intro q q1 q2
      rw [k15, if_neg (fun w => by omega), k0 16 (by omega) (by omega) (by omega) (by omega) (by omega) (by omega)]
      exact c3 q q1 q2
    · intro j hj
      rw [ru_s] at hj
      simp at hj
    · rw [show ru (ru sN 0 3 (V + 1)) 5 V s 0 1 = sN 0 1 from by rw [ru_t _ _ (by omega), ru_i _ _ (by omega)]]
      intro i hi
      rw [k0 19 (by omega) (by omega) (by omega) (by omega) (by omega) (by omega), k0 20 (by omega) (by omega) (by omega) (by omega) (by omega) (by omega), k0 21 (by omega) (by omega) (by omega) (by omega) (by omega) (by omega), k0 22 (by omega) (by omega) (by omega) (by omega) (by omega) (by omega), k0 23 (by omega) (by omega) (by omega) (by omega) (by omega) (by omega), k0 24 (by omega) (by omega) (by omega) (by omega) (by omega) (by omega), k0 25 (by omega) (by omega) (by omega) (by omega) (by omega) (by omega), k0 26 (by omega) (by omega) (by omega) (by omega) (by omega) (by omega)]
      rw [ru_f (ru sL 0 V (sL 3 0)) _ (show (1 : Nat) ≠ 3 by omega), ru_f (ru sL 0 V (sL 3 0)) _ (show (2 : Nat) ≠ 3 by omega), ru_f sL _ (show (1 : Nat) ≠ 0 by omega), ru_f sL _ (show (2 : Nat) ≠ 0 by omega), ru_f (ru sN 0 3 (V + 1)) _ (show (1 : Nat) ≠ 5 by omega), ru_f (ru sN 0 3 (V + 1)) _ (show (2 : Nat) ≠ 5 by omega), ru_f sN _ (show (1 : Nat) ≠ 0 by omega), ru_f sN _ (show (2 : Nat) ≠ 0 by omega), ru_f sI _ (show (5 : Nat) ≠ 3 by omega), ru_f (ru sO 1 s o1) _ (show 2 + i ≠ 0 by omega), ru_f sO _ (show 2 + i ≠ 1 by omega)]
      exact c5' i hi
    · rw [show ru (ru sN 0 3 (V + 1)) 5 V s 0 1 = sN 0 1 from by rw [ru_t _ _ (by omega), ru_i _ _ (by omega)]]
      rw [k0 21 (by omega) (by omega) (by omega) (by omega) (by omega) (by omega), k0 22 (by omega) (by omega) (by omega) (by omega) (by omega) (by omega), k0 24 (by omega) (by omega) (by omega) (by omega) (by omega) (by omega), k0 25 (by omega) (by omega) (by omega) (by omega) (by omega) (by omega), k0 26 (by omega) (by omega) (by omega) (by omega) (by omega) (by omega)]
      exact c6
    · rw [k0 27 (by omega) (by omega) (by omega) (by omega) (by omega) (by omega), k0 28 (by omega) (by omega) (by omega) (by omega) (by omega) (by omega), k0 29 (by omega) (by omega) (by omega) (by omega) (by omega) (by omega)]
      exact c7
    · rw [show ru (ru sN 0 3 (V + 1)) 5 V s 0 2 = sN 0 2 from by rw [ru_t _ _ (by omega), ru_i _ _ (by omega)]]
      rw [k0 30 (by omega) (by omega) (by omega) (by omega) (by omega) (by omega), k0 31 (by omega) (by omega) (by omega) (by omega) (by omega) (by omega), k0 32 (by omega) (by omega) (by omega) (by omega) (by omega) (by omega)]
      intro q hq
      rw [ru_f (ru sN 0 3 (V + 1)) _ (show (3 : Nat) ≠ 5 by omega), ru_f (ru sN 0 3 (V + 1)) _ (show (4 : Nat) ≠ 5 by omega), ru_f sN _ (show (3 : Nat) ≠ 0 by omega), ru_f sN _ (show (4 : Nat) ≠ 0 by omega), ru_f sI _ (show (6 : Nat) ≠ 3 by omega)]
      exact c8 q hq
  · refine VS.clear ⟨⟨cl, hcl, by rw [ru_t _ _ (by omega)]; exact ecl⟩, ?_, ?_, ?_, ?_, ?_, ?_⟩
    · rw [ru_t _ _ (by omega), ru_t _ _ (by omega), ru_t _ _ (by omega)]; exact d2
    · rw [ru_t _ _ (by omega)]; exact d3
    · rw [show ru (ru sN 0 3 (V + 1)) 5 V s 0 3 = V + 1 from by rw [ru_t _ _ (by omega), ru_s], show ru (ru sN 0 3 (V + 1)) 5 V s 0 0 = sN 0 0 from by rw [ru_t _ _ (by omega), ru_i _ _ (by omega)]]
      intro v hv
      by_cases q : v = V
      · rw [q, ru_s, ru_s]
        exact ⟨l4, l12, d3, hs⟩
      · rw [ru_i _ _ q, ru_i _ _ q, ru_t _ _ (by omega)]
        exact d4 v (by omega)
    · rw [show ru (ru sN 0 3 (V + 1)) 5 V s 0 3 = V + 1 from by rw [ru_t _ _ (by omega), ru_s], show ru (ru sN 0 3 (V + 1)) 5 V s 0 0 = sN 0 0 from by rw [ru_t _ _ (by omega), ru_i _ _ (by omega)]]
      intro q hq
      have nv : ∀ v, v < V → ru (ru sN 0 3 (V + 1)) 5 V s 5 v = sN 5 v := fun v hv => by rw [ru_i _ _ (by omega), ru_t _ _ (by omega)]
      rw [ru_t sI _ (show (4 : Nat) ≠ 3 by omega), ru_t (ru sO 1 s o1) _ (show (1 : Nat) ≠ 0 by omega)]
      obtain ⟨p1, p2, p3, p4⟩ := d5 q hq
      by_cases w : q = s
      · subst w
        rw [ru_s, ru_s, ru_s]
        refine ⟨p1, fun v hv => ?_, fun v hv => ?_, ?_⟩
        · cases hv
          exact ⟨by omega, ru_s _ _ _ _⟩
        · obtain ⟨b1, b2⟩ := ho1 v hv
          exact ⟨by omega, by rw [nv v b1]; exact b2, V, rfl, b1⟩
        · rcases hot with ⟨q1, q2, q3⟩ | ⟨w', q1, q2, q3⟩
          · rw [q3]; exact p4
          · exact ⟨cl + t, by omega, by rw [q3, ecl, nI_add]⟩
      · rw [ru_i _ _ w, ru_i _ _ w, ru_i _ _ w, ru_t sO _ (show (0 : Nat) ≠ 1 by omega)]
        refine ⟨p1, fun v hv => ?_, fun v hv => ?_, p4⟩
        · obtain ⟨b1, b2⟩ := p2 v hv
          exact ⟨by omega, by rw [nv v (by omega)]; exact b2⟩
        · obtain ⟨b1, b2, b3⟩ := p3 v hv
          exact ⟨by omega, by rw [nv v (by omega)]; exact b2, b3⟩
    · rw [show ru (ru sN 0 3 (V + 1)) 5 V s 0 3 = V + 1 from by rw [ru_t _ _ (by omega), ru_s], show ru (ru sN 0 3 (V + 1)) 5 V s 0 0 = sN 0 0 from by rw [ru_t _ _ (by omega), ru_i _ _ (by omega)], show ru (ru sN 0 3 (V + 1)) 5 V s 0 1 = sN 0 1 from by rw [ru_t _ _ (by omega), ru_i _ _ (by omega)]]
      intro i hi
      rw [ru_f sL _ (show (1 : Nat) ≠ 0 by omega), ru_f sL _ (show (2 : Nat) ≠ 0 by omega), ru_f (ru sN 0 3 (V + 1)) _ (show (1 : Nat) ≠ 5 by omega), ru_f (ru sN 0 3 (V + 1)) _ (show (2 : Nat) ≠ 5 by omega), ru_f sN _ (show (1 : Nat) ≠ 0 by omega), ru_f sN _ (show (2 : Nat) ≠ 0 by omega), ru_f sI _ (show (5 : Nat) ≠ 3 by omega), ru_f (ru sO 1 s o1) _ (show 2 + i ≠ 0 by omega), ru_f sO _ (show 2 + i ≠ 1 by omega)]
      obtain ⟨p1, p2, p3⟩ := d6 i hi
      refine ⟨p1, fun q v q1 q2 => ?_, p3⟩
      obtain ⟨b1, b2⟩ := p2 q v q1 q2
      exact ⟨b1, by omega⟩
    · rw [show ru (ru sN 0 3 (V + 1)) 5 V s 0 3 = V + 1 from by rw [ru_t _ _ (by omega), ru_s], show ru (ru sN 0 3 (V + 1)) 5 V s 0 0 = sN 0 0 from by rw [ru_t _ _ (by omega), ru_i _ _ (by omega)], show ru (ru sN 0 3 (V + 1)) 5 V s 0 2 = sN 0 2 from by rw [ru_t _ _ (by omega), ru_i _ _ (by omega)]]
      intro q hq
      rw [ru_f (ru sN 0 3 (V + 1)) _ (show (3 : Nat) ≠ 5 by omega), ru_f (ru sN 0 3 (V + 1)) _ (show (4 : Nat) ≠ 5 by omega), ru_f sN _ (show (3 : Nat) ≠ 0 by omega), ru_f sN _ (show (4 : Nat) ≠ 0 by omega), ru_f sI _ (show (6 : Nat) ≠ 3 by omega)]
      obtain ⟨p1, p2, p3⟩ := d7 q hq
      exact ⟨p1, by omega, p3⟩
