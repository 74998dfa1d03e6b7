section OPF
variable {z : gS} {ad : Nat → Nat → Nat} {ce : Nat → Nat → gE} {bd : Nat → Nat} {iv : Nat → Int32} {fa : Nat → Nat → Int32} {sI : Nat → Nat → Int32} {sO : Nat → Nat → Option Nat} {sL : Nat → Nat → List Int32} {sN : Nat → Nat → Nat} {au : List (Int32 × Int32 × Int32)}
theorem fs_none (h : C1 z ad ce sI sO sL sN au) (n : Nat) {i : Int32} (hi : i < 0 ∨ nI (sN 0 0) ≤ i) : fMain_findSecret n (ad 0 0) i z = some (none, z) := by
  have hm := c_m h
  unfold fMain_findSecret
  by_cases c0 : i < 0
  · rw [if_pos c0]
  · rw [if_neg c0, q_fI hm (k := 6) (x := nI (sN 0 0)) rfl, Option.bind_some, if_pos (hi.resolve_left c0)]
theorem fs_some (h : C1 z ad ce sI sO sL sN au) (n : Nat) {s : Nat} (hs : s < sN 0 0) : fMain_findSecret n (ad 0 0) (nI s) z = some (some (ad 13 s), z) := by
  have hm := c_m h
  obtain ⟨h1, -, ⟨g1, ⟨g, g2, g3⟩, -⟩, -⟩ := id h
  have ha := h1.get (t := 1) (i := 0) (by simp [cnC]) g2
  unfold fMain_findSecret
  rw [if_neg (nI_pos (by omega)), q_fI hm (k := 6) (x := nI (sN 0 0)) rfl, Option.bind_some, if_neg (fun q => absurd ((nI_leI (by omega) (by omega)).mp q) (by omega)), q_fR hm (k := 0) (r := some (ad 1 0)) rfl, Option.bind_some, Option.bind_some, q_lenR ha, Option.bind_some, if_pos ((nI_ltI (by omega) (by omega)).mpr (by omega)), Option.bind_some, Option.bind_some, q_ldR ha (by omega) (by omega), Option.bind_some, g3 s hs]
theorem ft_none (h : C1 z ad ce sI sO sL sN au) (n : Nat) {i : Int32} (hi : i < 0 ∨ nI (sN 0 1) ≤ i) : fMain_findStep n (ad 0 0) i z = some (none, z) := by
  have hm := c_m h
  unfold fMain_findStep
  by_cases c0 : i < 0
  · rw [if_pos c0]
  · rw [if_neg c0, q_fI hm (k := 7) (x := nI (sN 0 1)) rfl, Option.bind_some, if_pos (hi.resolve_left c0)]
theorem ft_some (h : C1 z ad ce sI sO sL sN au) (n : Nat) {s : Nat} (hs : s < sN 0 1) : fMain_findStep n (ad 0 0) (nI s) z = some (some (ad 14 s), z) := by
  have hm := c_m h
  obtain ⟨h1, -, -, -, ⟨g1, ⟨g, g2, g3⟩, -⟩, -⟩ := id h
  have ha := h1.get (t := 2) (i := 0) (by simp [cnC]) g2
  unfold fMain_findStep
  rw [if_neg (nI_pos (by omega)), q_fI hm (k := 7) (x := nI (sN 0 1)) rfl, Option.bind_some, if_neg (fun q => absurd ((nI_leI (by omega) (by omega)).mp q) (by omega)), q_fR hm (k := 1) (r := some (ad 2 0)) rfl, Option.bind_some, Option.bind_some, q_lenR ha, Option.bind_some, if_pos ((nI_ltI (by omega) (by omega)).mpr (by omega)), Option.bind_some, Option.bind_some, q_ldR ha (by omega) (by omega), Option.bind_some, g3 s hs]
theorem is_0 (h : R2 z bd iv fa) (h2 : iv 2 = nI (sN 0 0)) (n : Nat) {i : Int32} (hi : i < 0 ∨ nI (sN 0 0) ≤ i) : fRef_isSecret n (bd 0) i z = some (0, z) := by
  unfold fRef_isSecret
  by_cases c0 : i < 0
  · rw [if_pos c0]
  · rw [if_neg c0, r_I h 2 rfl, h2, Option.bind_some, if_pos (hi.resolve_left c0)]
theorem is_1 (h : R2 z bd iv fa) (h2 : iv 2 = nI (sN 0 0)) (n : Nat) {s : Nat} (hs : s < sN 0 0) (hb : sN 0 0 ≤ 10) : fRef_isSecret n (bd 0) (nI s) z = some (1, z) := by
  unfold fRef_isSecret
  rw [if_neg (nI_pos (by omega)), r_I h 2 rfl, h2, Option.bind_some, if_neg (fun q => absurd ((nI_leI (by omega) (by omega)).mp q) (by omega))]
theorem it_0 (h : R2 z bd iv fa) (h2 : iv 4 = nI (sN 0 1)) (n : Nat) {i : Int32} (hi : i < 0 ∨ nI (sN 0 1) ≤ i) : fRef_isStep n (bd 0) i z = some (0, z) := by
  unfold fRef_isStep
  by_cases c0 : i < 0
  · rw [if_pos c0]
  · rw [if_neg c0, r_I h 4 rfl, h2, Option.bind_some, if_pos (hi.resolve_left c0)]
theorem it_1 (h : R2 z bd iv fa) (h2 : iv 4 = nI (sN 0 1)) (n : Nat) {s : Nat} (hs : s < sN 0 1) (hb : sN 0 1 ≤ 12) : fRef_isStep n (bd 0) (nI s) z = some (1, z) := by
  unfold fRef_isStep
  rw [if_neg (nI_pos (by omega)), r_I h 4 rfl, h2, Option.bind_some, if_neg (fun q => absurd ((nI_leI (by omega) (by omega)).mp q) (by omega))]
theorem C1.nS (h : C1 z ad ce sI sO sL sN au) : sN 0 0 ≤ 10 := h.2.2.1.1
theorem C1.nV (h : C1 z ad ce sI sO sL sN au) : sN 0 3 ≤ 24 := h.2.2.2.1.1
theorem C1.nT (h : C1 z ad ce sI sO sL sN au) : sN 0 1 ≤ 12 := h.2.2.2.2.1.1
theorem C1.nK (h : C1 z ad ce sI sO sL sN au) : sN 0 2 ≤ 20 := h.2.2.2.2.2.1.1
theorem C1.sec (h : C1 z ad ce sI sO sL sN au) {s : Nat} (hs : s < sN 0 0) : z.1 (ad 13 s) = some (cS ad sI sO s) := h.1.get (by simp [cnC]; exact hs) (h.2.2.1.2.2 s hs)
theorem C1.stp (h : C1 z ad ce sI sO sL sN au) {s : Nat} (hs : s < sN 0 1) : z.1 (ad 14 s) = some (.inr (4, [.ref (ad 15 s), .ref (ad 16 s)])) := h.1.get (by simp [cnC]; exact hs) (h.2.2.2.2.1.2.2 s hs).1
theorem C1.log (h : C1 z ad ce sI sO sL sN au) {s : Nat} (hs : s < sN 0 1) : z.1 (ad 16 s) = some (.inr (3, [.ref (ad 17 s), .ref (ad 19 s), .int (nI (sN 1 s)), .int (nI (sN 2 s)), .int (sI 5 s)])) := h.1.get (by simp [cnC]; exact hs) (h.2.2.2.2.1.2.2 s hs).2.2.1
theorem C1.came (h : C1 z ad ce sI sO sL sN au) {s : Nat} (hs : s < sN 0 1) : tx z (ad 17 s) (ad 18 s) 300 (sL 1 s) := (h.2.2.2.2.1.2.2 s hs).2.2.2.1.tx h.1 (by simp [cnC]; exact hs) (by simp [cnC]; exact hs)
theorem C1.told (h : C1 z ad ce sI sO sL sN au) {s : Nat} (hs : s < sN 0 1) : tx z (ad 19 s) (ad 20 s) 300 (sL 2 s) := (h.2.2.2.2.1.2.2 s hs).2.2.2.2.tx h.1 (by simp [cnC]; exact hs) (by simp [cnC]; exact hs)
end OPF
theorem i_ix (x : Int32) {n : Nat} (hn : n < 2 ^ 31) : (x < 0 ∨ nI n ≤ x) ∨ ∃ j : Nat, j < n ∧ x = nI j := by
  rcases pk_ix x hn with h | h | h
  · exact Or.inl (Or.inl h)
  · exact Or.inl (Or.inr h)
  · exact Or.inr h
theorem op_told (n x y : Nat) : OP_told n x y (Sim x y) := by
  intro G1 G2 sz v0 v1 hS
  obtain ⟨ad, ce, bd, iv, fa, sI, sO, sL, sN, au, rfl, rfl, hC, hR, hRS, hV⟩ := hS
  obtain ⟨z2, e2, hR2, hz2⟩ := r_p0 hR 0
  have hm := c_m hC
  have hb := hC.nT
  have h4 : (up1 iv 0 0) 4 = nI (sN 0 1) := hRS.1.2.2.2.1
  rcases i_ix v0 (n := sN 0 1) (by omega) with h | ⟨i, hi, rfl⟩
  · have A : fMain_told n (ad 0 0) v0 v1 (G1, sz) = some (-1, (G1, sz)) := by
      unfold fMain_told
      rw [q_is hm, Option.bind_some, q_bp (ft_none hC n h)]
      rfl
    have B : fRef_told n (bd 0) v0 v1 (G2, sz) = some (-1, z2) := by
      unfold fRef_told
      rw [e2, Option.bind_some, r_is hR2, Option.bind_some, q_bp (it_0 hR2 h4 n h), if_pos rfl]
    exact ⟨_, _, _, A, B, sim_mk rfl rfl hC hR2 hz2 (hRS.code 0) hV⟩
  · have ht := hC.told hi
    obtain ⟨-, -, -, -, -, b5, -⟩ := id hRS
    obtain ⟨-, -, -, -, f23, f24, -⟩ := b5 i hi
    have hl : (sL 2 i).length ≤ 300 := ht.2.1
    have A : fMain_told n (ad 0 0) (nI i) v1 (G1, sz) = some (tAt (sL 2 i) v1, (G1, sz)) := by
      unfold fMain_told
      rw [q_is hm, Option.bind_some, q_bp (ft_some hC n hi)]
      show (g_fR (G1, sz) (ad 14 i) 4 1).bind _ = _
      rw [q_fR (hC.stp hi) (k := 1) (r := some (ad 16 i)) rfl, Option.bind_some, Option.bind_some, q_fR (hC.log hi) (k := 1) (r := some (ad 19 i)) rfl, Option.bind_some, Option.bind_some, q_is ht.1, Option.bind_some, q_bp (tx_at ht n v1)]
    have B : fRef_told n (bd 0) (nI i) v1 (G2, sz) = some (tAt (sL 2 i) v1, z2) := by
      unfold fRef_told
      rw [e2, Option.bind_some, r_is hR2, Option.bind_some, q_bp (it_1 hR2 h4 n hi hb), if_neg (by decide)]
      by_cases c0 : v1 < 0
      · rw [if_pos c0]
        unfold tAt
        rw [if_pos c0]
      · obtain ⟨j, hj, rfl⟩ := nI_of c0
        rw [if_neg c0, r_R hR2 24 rfl, Option.bind_some, Option.bind_some, r_ld hR2 (k := 24) (ty := .int) (by unfold aK; omega) rfl (by show i < 12; omega), f24, Option.bind_some, tAt_nI hj]
        by_cases c1 : j < (sL 2 i).length
        · have e5 : (300 : Int32) * nI i + nI j = nI (300 * i + j) := by
            rw [show (300 : Int32) = nI 300 from rfl, pk_mul, nI_add]
          rw [if_pos ((nI_ltI hj (by omega)).mpr c1), r_R hR2 23 rfl, Option.bind_some, Option.bind_some, e5, r_ld hR2 (k := 23) (ty := .int) (by unfold aK; omega) rfl (by show _ < 3600; omega), Option.bind_some, f23 j c1]
          rfl
        · rw [if_neg (fun q => c1 ((nI_ltI hj (by omega)).mp q)), List.getElem?_eq_none (by omega)]
          rfl
    exact ⟨_, _, _, A, B, sim_mk rfl rfl hC hR2 hz2 (hRS.code 0) hV⟩
theorem op_about (n x y : Nat) : OP_about n x y (Sim x y) := by
  intro G1 G2 sz v0 v1 hS
  obtain ⟨ad, ce, bd, iv, fa, sI, sO, sL, sN, au, rfl, rfl, hC, hR, hRS, hV⟩ := hS
  obtain ⟨z2, e2, hR2, hz2⟩ := r_p0 hR 0
  have hm := c_m hC
  have hb := hC.nT
  have h4 : (up1 iv 0 0) 4 = nI (sN 0 1) := hRS.1.2.2.2.1
  rcases i_ix v0 (n := sN 0 1) (by omega) with h | ⟨i, hi, rfl⟩
  · have A : fMain_about n (ad 0 0) v0 v1 (G1, sz) = some (-1, (G1, sz)) := by
      unfold fMain_about
      rw [q_is hm, Option.bind_some, q_bp (ft_none hC n h)]
      rfl
    have B : fRef_about n (bd 0) v0 v1 (G2, sz) = some (-1, z2) := by
      unfold fRef_about
      rw [e2, Option.bind_some, r_is hR2, Option.bind_some, q_bp (it_0 hR2 h4 n h), if_pos rfl]
    exact ⟨_, _, _, A, B, sim_mk rfl rfl hC hR2 hz2 (hRS.code 0) hV⟩
  · have ht := hC.told hi
    have hc := hC.came hi
    obtain ⟨-, -, -, -, -, b5, -⟩ := id hRS
    obtain ⟨-, -, f21, f22, -, f24, f25, -⟩ := b5 i hi
    have A : fMain_about n (ad 0 0) (nI i) v1 (G1, sz) = some (if v1 = 0 then nI (sL 2 i).length else if v1 = 1 then nI (sL 1 i).length - nI (sN 1 i) else if v1 = 2 then nI (sN 2 i) else -1, (G1, sz)) := by
      unfold fMain_about fLog_heldCount
      rw [q_is hm, Option.bind_some, q_bp (ft_some hC n hi)]
      show (if v1 = 0 then _ else _) = _
      rw [q_fR (hC.stp hi) (k := 1) (r := some (ad 16 i)) rfl]
      simp only [Option.bind_some]
      rw [q_fR (hC.log hi) (k := 1) (r := some (ad 19 i)) rfl, q_fR (hC.log hi) (k := 0) (r := some (ad 17 i)) rfl, q_fI (hC.log hi) (k := 3) (x := nI (sN 2 i)) rfl, q_is (hC.log hi)]
      simp only [Option.bind_some]
      rw [q_is ht.1, q_is hc.1]
      simp only [Option.bind_some]
      rw [q_bp (tx_len ht n), q_bp (tx_len hc n), q_fI (hC.log hi) (k := 2) (x := nI (sN 1 i)) rfl]
      repeat' split
      all_goals rfl
    have B : fRef_about n (bd 0) (nI i) v1 (G2, sz) = some (if v1 = 0 then nI (sL 2 i).length else if v1 = 1 then nI (sL 1 i).length - nI (sN 1 i) else if v1 = 2 then nI (sN 2 i) else -1, z2) := by
      unfold fRef_about
      rw [e2, Option.bind_some, r_is hR2, Option.bind_some, q_bp (it_1 hR2 h4 n hi hb), if_neg (by decide), r_R hR2 24 rfl, r_R hR2 21 rfl, r_R hR2 22 rfl, r_R hR2 25 rfl]
      simp only [Option.bind_some]
      rw [r_ld hR2 (k := 24) (ty := .int) (by unfold aK; omega) rfl (by show i < 12; omega), r_ld hR2 (k := 21) (ty := .int) (by unfold aK; omega) rfl (by show i < 12; omega), r_ld hR2 (k := 22) (ty := .int) (by unfold aK; omega) rfl (by show i < 12; omega), r_ld hR2 (k := 25) (ty := .int) (by unfold aK; omega) rfl (by show i < 12; omega), f24, f21, f22, f25]
      repeat' split
      all_goals rfl
    exact ⟨_, _, _, A, B, sim_mk rfl rfl hC hR2 hz2 (hRS.code 0) hV⟩
