/-! THE CLASS'S FORMS -/
def FR (z : gS) (ad : Nat → Nat → Nat) (es : List (Nat × Nat × Nat × Nat)) : Prop := ∃ (g : Nat → Option Nat) (f1 f2 f3 : Nat → Int32), z.1 (ad 8 0) = some (.inr (7, [.ref (ad 9 0), .ref (ad 10 0), .ref (ad 11 0), .ref (ad 12 0), .int (nI es.length)])) ∧ z.1 (ad 9 0) = some (aR "SecretRows$Text" 60 g) ∧ z.1 (ad 10 0) = some (.inl (.int, 60, .inl f1)) ∧ z.1 (ad 11 0) = some (.inl (.int, 60, .inl f2)) ∧ z.1 (ad 12 0) = some (.inl (.int, 60, .inl f3)) ∧ es.length ≤ 60 ∧ ∀ k s v f o, es[k]? = some (s, v, f, o) → g k = some (ad (23 + 2 * f) v) ∧ f1 k = nI s ∧ f2 k = nI f ∧ f3 k = nI o
def FM (z z1 : gS) (ad : Nat → Nat → Nat) : Prop := z1.2 = z.2 ∧ ∀ b, (∀ t, 8 ≤ t → t ≤ 12 → b ≠ ad t 0) → z1.1 b = z.1 b
theorem FM.tr {z z1 z2 : gS} {ad : Nat → Nat → Nat} (h : FM z z1 ad) (h2 : FM z1 z2 ad) : FM z z2 ad := ⟨h2.1.trans h.1, fun b hb => (h2.2 b hb).trans (h.2 b hb)⟩
section FS
variable {z z1 : gS} {ad : Nat → Nat → Nat} {ce : Nat → Nat → gE} {sI : Nat → Nat → Int32} {sO : Nat → Nat → Option Nat} {sL : Nat → Nat → List Int32} {sN : Nat → Nat → Nat} {au : List (Int32 × Int32 × Int32)} {es : List (Nat × Nat × Nat × Nat)}
theorem FR.keep (h : FR z ad es) (hk : ∀ t, 8 ≤ t → t ≤ 12 → z1.1 (ad t 0) = z.1 (ad t 0)) : FR z1 ad es := by
  obtain ⟨g, f1, f2, f3, h8, h9, h10, h11, h12, r⟩ := h
  exact ⟨g, f1, f2, f3, (hk 8 (by omega) (by omega)).trans h8, (hk 9 (by omega) (by omega)).trans h9, (hk 10 (by omega) (by omega)).trans h10, (hk 11 (by omega) (by omega)).trans h11, (hk 12 (by omega) (by omega)).trans h12, r⟩
theorem C1.frm (h : C1 z ad ce sI sO sL sN au) (hm : FM z z1 ad) (hF : FR z1 ad es) : ∃ ce1, C1 z1 ad ce1 sI sO sL sN au := by
  obtain ⟨h1, h2, h3, h4, h5, h6, h7, h8, h9⟩ := h
  obtain ⟨g, f1, f2, f3, b8, b9, b10, b11, b12, -⟩ := hF
  let nc : Nat → gE := fun t => if t = 8 then .inr (7, [.ref (ad 9 0), .ref (ad 10 0), .ref (ad 11 0), .ref (ad 12 0), .int (nI es.length)]) else if t = 9 then aR "SecretRows$Text" 60 g else if t = 10 then .inl (.int, 60, .inl f1) else if t = 11 then .inl (.int, 60, .inl f2) else .inl (.int, 60, .inl f3)
  let ce1 : Nat → Nat → gE := fun t i => if 8 ≤ t ∧ t ≤ 12 then nc t else ce t i
  have k : ∀ t i, (t < 8 ∨ 12 < t) → ce1 t i = ce t i := fun t i q => if_neg (by omega)
  refine ⟨ce1, ⟨fun t i hi => ?_, fun t i hi => by rw [hm.1]; exact h1.2.1 t i hi, h1.2.2⟩, (k 0 0 (by omega)).trans h2, h3.cg rfl (k _ _ (by omega)) (fun i _ => k _ _ (by omega)) (fun _ _ => rfl) (fun i _ => rfl), h4.cg rfl (fun t v _ _ _ => ⟨k _ _ (by omega), rfl⟩) (fun v _ => rfl), h5.cg rfl (k _ _ (by omega)) (fun t i _ _ _ => ⟨k _ _ (by omega), rfl⟩) (fun _ _ _ _ => rfl) (fun i _ => ⟨rfl, rfl, rfl, rfl, rfl⟩), h6.cg rfl (k _ _ (by omega)) (fun i _ => ⟨k _ _ (by omega), rfl⟩) (fun i _ => ⟨rfl, rfl, rfl⟩), h7.cg (k _ _ (by omega)) (k _ _ (by omega)) rfl, h8.keep rfl (k _ _ (by omega)) (k _ _ (by omega)), ⟨nI es.length, g, f1, f2, f3, rfl, rfl, rfl, rfl, rfl⟩⟩
  by_cases q : 8 ≤ t ∧ t ≤ 12
  · have hi0 : i = 0 := by
      unfold cnC at hi
      rw [if_pos (by omega)] at hi
      omega
    subst hi0
    show z1.1 (ad t 0) = some (if 8 ≤ t ∧ t ≤ 12 then nc t else ce t 0)
    rw [if_pos q]
    have : t = 8 ∨ t = 9 ∨ t = 10 ∨ t = 11 ∨ t = 12 := by omega
    rcases this with rfl | rfl | rfl | rfl | rfl
    · exact b8
    · exact b9
    · exact b10
    · exact b11
    · exact b12
  · rw [k t i (by omega), hm.2 _ (fun t' q1 q2 => h1.ne hi (by unfold cnC; rw [if_pos (by omega)]; omega) (by omega))]
    exact h1.1 t i hi
theorem fm_ne (h : C1 z ad ce sI sO sL sN au) {t t' : Nat} (a : t < 13) (b : t' < 13) (c : t ≠ t') : ad t 0 ≠ ad t' 0 := h.1.ne (by unfold cnC; rw [if_pos a]; omega) (by unfold cnC; rw [if_pos b]; omega) (by omega)
theorem fm_add (hC : C1 z ad ce sI sO sL sN au) (hF : FR z ad es) (hl : es.length < 60) (n : Nat) {s v f o : Nat} {fs : List Value} (hx : z.1 (ad (23 + 2 * f) v) = some (.inr (0, fs))) : ∃ (z1 : gS) (ce1 : Nat → Nat → gE), fForms_add n (ad 8 0) (ad (23 + 2 * f) v) (nI s) (nI f) (nI o) z = some z1 ∧ C1 z1 ad ce1 sI sO sL sN au ∧ FR z1 ad (es ++ [(s, v, f, o)]) ∧ FM z z1 ad := by
  obtain ⟨g, f1, f2, f3, b8, b9, b10, b11, b12, bl, bk⟩ := id hF
  have n89 : ad 8 0 ≠ ad 9 0 := fm_ne hC (by omega) (by omega) (by omega)
  have n8a : ad 8 0 ≠ ad 10 0 := fm_ne hC (by omega) (by omega) (by omega)
  have n8b : ad 8 0 ≠ ad 11 0 := fm_ne hC (by omega) (by omega) (by omega)
  have n8c : ad 8 0 ≠ ad 12 0 := fm_ne hC (by omega) (by omega) (by omega)
  have n9a : ad 9 0 ≠ ad 10 0 := fm_ne hC (by omega) (by omega) (by omega)
  have n9b : ad 9 0 ≠ ad 11 0 := fm_ne hC (by omega) (by omega) (by omega)
  have n9c : ad 9 0 ≠ ad 12 0 := fm_ne hC (by omega) (by omega) (by omega)
  have nab : ad 10 0 ≠ ad 11 0 := fm_ne hC (by omega) (by omega) (by omega)
  have nac : ad 10 0 ≠ ad 12 0 := fm_ne hC (by omega) (by omega) (by omega)
  have nbc : ad 11 0 ≠ ad 12 0 := fm_ne hC (by omega) (by omega) (by omega)
  obtain ⟨w1, ew1⟩ : ∃ w, w = g_up z (ad 9 0) (aR "SecretRows$Text" 60 (va_up g es.length (some (ad (23 + 2 * f) v)))) := ⟨_, rfl⟩
  have e1 : g_stR z (.object "SecretRows$Text") (ad 9 0) (nI es.length) (some (ad (23 + 2 * f) v)) = some w1 := by rw [ew1]; exact q_stR b9 hl (by omega)
  have c8 : w1.1 (ad 8 0) = some (.inr (7, [.ref (ad 9 0), .ref (ad 10 0), .ref (ad 11 0), .ref (ad 12 0), .int (nI es.length)])) := by rw [ew1]; exact (q_un n89).trans b8
  have c10 : w1.1 (ad 10 0) = some (.inl (.int, 60, .inl f1)) := by rw [ew1]; exact (q_un n9a.symm).trans b10
  obtain ⟨w2, ew2⟩ : ∃ w, w = g_up w1 (ad 10 0) (.inl (.int, 60, .inl (upd f1 es.length (nI s)))) := ⟨_, rfl⟩
  have e2 : g_stI w1 .int (ad 10 0) (nI es.length) (nI s) = some w2 := by rw [ew2]; exact q_stI c10 hl (by omega)
  have d8 : w2.1 (ad 8 0) = some (.inr (7, [.ref (ad 9 0), .ref (ad 10 0), .ref (ad 11 0), .ref (ad 12 0), .int (nI es.length)])) := by rw [ew2]; exact (q_un n8a).trans c8
  have d11 : w2.1 (ad 11 0) = some (.inl (.int, 60, .inl f2)) := by rw [ew2, ew1]; exact (q_un nab.symm).trans ((q_un n9b.symm).trans b11)
  obtain ⟨w3, ew3⟩ : ∃ w, w = g_up w2 (ad 11 0) (.inl (.int, 60, .inl (upd f2 es.length (nI f)))) := ⟨_, rfl⟩
  have e3 : g_stI w2 .int (ad 11 0) (nI es.length) (nI f) = some w3 := by rw [ew3]; exact q_stI d11 hl (by omega)
  have p8 : w3.1 (ad 8 0) = some (.inr (7, [.ref (ad 9 0), .ref (ad 10 0), .ref (ad 11 0), .ref (ad 12 0), .int (nI es.length)])) := by rw [ew3]; exact (q_un n8b).trans d8
  have p12 : w3.1 (ad 12 0) = some (.inl (.int, 60, .inl f3)) := by rw [ew3, ew2, ew1]; exact (q_un nbc.symm).trans ((q_un nac.symm).trans ((q_un n9c.symm).trans b12))
  obtain ⟨w4, ew4⟩ : ∃ w, w = g_up w3 (ad 12 0) (.inl (.int, 60, .inl (upd f3 es.length (nI o)))) := ⟨_, rfl⟩
  have e4 : g_stI w3 .int (ad 12 0) (nI es.length) (nI o) = some w4 := by rw [ew4]; exact q_stI p12 hl (by omega)
  have q8 : w4.1 (ad 8 0) = some (.inr (7, [.ref (ad 9 0), .ref (ad 10 0), .ref (ad 11 0), .ref (ad 12 0), .int (nI es.length)])) := by rw [ew4]; exact (q_un n8c).trans p8
  obtain ⟨w5, ew5⟩ : ∃ w, w = g_up w4 (ad 8 0) (.inr (7, [.ref (ad 9 0), .ref (ad 10 0), .ref (ad 11 0), .ref (ad 12 0), .int (nI (es.length + 1))])) := ⟨_, rfl⟩
  have e5 : g_pF w4 (ad 8 0) 7 4 (.int (nI (es.length + 1))) = some w5 := by rw [ew5]; exact q_pF q8 (Nat.le_of_ble_eq_true rfl)
  have call : fForms_add n (ad 8 0) (ad (23 + 2 * f) v) (nI s) (nI f) (nI o) z = some w5 := by
    unfold fForms_add
    rw [q_fI b8 (k := 4) (x := nI es.length) rfl, Option.bind_some, if_neg (nI_pos (by omega)), Option.bind_some, if_pos (show nI es.length < 60 from (nI_ltI (b := 60) (by omega) (by omega)).mpr hl), q_fR b8 (k := 0) (r := some (ad 9 0)) rfl, Option.bind_some, Option.bind_some, Option.bind_some, q_is hx, Option.bind_some, e1, Option.bind_some, q_fR c8 (k := 1) (r := some (ad 10 0)) rfl, Option.bind_some, q_fI c8 (k := 4) (x := nI es.length) rfl, Option.bind_some, Option.bind_some, e2, Option.bind_some, q_fR d8 (k := 2) (r := some (ad 11 0)) rfl, Option.bind_some, q_fI d8 (k := 4) (x := nI es.length) rfl, Option.bind_some, Option.bind_some, e3, Option.bind_some, q_fR p8 (k := 3) (r := some (ad 12 0)) rfl, Option.bind_some, q_fI p8 (k := 4) (x := nI es.length) rfl, Option.bind_some, Option.bind_some, e4, Option.bind_some, q_fI q8 (k := 4) (x := nI es.length) rfl, Option.bind_some, nI_1, e5, Option.bind_some]
  have hM : FM z w5 ad := by
    refine ⟨by rw [ew5, ew4, ew3, ew2, ew1]; rfl, fun b hb => ?_⟩
    rw [ew5, q_un (hb 8 (by omega) (by omega)), ew4, q_un (hb 12 (by omega) (by omega)), ew3, q_un (hb 11 (by omega) (by omega)), ew2, q_un (hb 10 (by omega) (by omega)), ew1, q_un (hb 9 (by omega) (by omega))]
  have hF' : FR w5 ad (es ++ [(s, v, f, o)]) := by
    refine ⟨va_up g es.length (some (ad (23 + 2 * f) v)), upd f1 es.length (nI s), upd f2 es.length (nI f), upd f3 es.length (nI o), ?_, ?_, ?_, ?_, ?_, ?_, fun k s' v' f' o' hk => ?_⟩
    · rw [ew5, q_up, List.length_append]; rfl
    · rw [ew5, q_un n89.symm, ew4, q_un n9c, ew3, q_un n9b, ew2, q_un n9a, ew1, q_up]
    · rw [ew5, q_un n8a.symm, ew4, q_un nac, ew3, q_un nab, ew2, q_up]
    · rw [ew5, q_un n8b.symm, ew4, q_un nbc, ew3, q_up]
    · rw [ew5, q_un n8c.symm, ew4, q_up]
    · rw [List.length_append]; simp; omega
    · by_cases q : k < es.length
      · rw [List.getElem?_append_left q] at hk
        rw [va_up_ne _ _ (by omega)]
        have hne : k ≠ es.length := by omega
        simp only [upd, if_neg hne]
        exact bk k s' v' f' o' hk
      · rw [List.getElem?_append_right (by omega)] at hk
        by_cases q2 : k = es.length
        · subst q2
          simp at hk
          obtain ⟨rfl, rfl, rfl, rfl⟩ := hk
          rw [va_up_self]
          simp [upd]
        · rw [List.getElem?_eq_none (by simp; omega)] at hk
          cases hk
  obtain ⟨ce1, hC1⟩ := hC.frm hM hF'
  exact ⟨w5, ce1, call, hC1, hF', hM⟩
theorem fm_addAll (hC : C1 z ad ce sI sO sL sN au) (hF : FR z ad es) (hl : es.length + 3 ≤ 60) (n : Nat) {s v o : Nat} (hv : v < sN 0 3) : ∃ (z1 : gS) (ce1 : Nat → Nat → gE), fForms_addAll n (ad 8 0) (nI s) (ad 22 v) (nI o) z = some z1 ∧ C1 z1 ad ce1 sI sO sL sN au ∧ FR z1 ad (es ++ fE s v o) ∧ FM z z1 ad := by
  have is : ∀ {y : gS} {es' : List (Nat × Nat × Nat × Nat)}, FR y ad es' → g_is y (ad 8 0) 7 = some () := fun hy => by
    obtain ⟨g, f1, f2, f3, b8, -⟩ := hy
    exact q_is b8
  obtain ⟨z1, ce1, a1, hC1, hF1, hM1⟩ := fm_add hC hF (by omega) n (s := s) (v := v) (f := 0) (o := o) (hC.vt0 hv).1
  obtain ⟨z2, ce2, a2, hC2, hF2, hM2⟩ := fm_add hC1 hF1 (by simp; omega) n (s := s) (v := v) (f := 1) (o := o) (hC1.vt1 hv).1
  obtain ⟨z3, ce3, a3, hC3, hF3, hM3⟩ := fm_add hC2 hF2 (by simp; omega) n (s := s) (v := v) (f := 2) (o := o) (hC2.vt2 hv).1
  refine ⟨z3, ce3, ?_, hC3, ?_, (hM1.tr hM2).tr hM3⟩
  · unfold fForms_addAll
    rw [q_fR (hC.val hv) (k := 1) (r := some (ad 23 v)) rfl, Option.bind_some, Option.bind_some, is hF, Option.bind_some]
    have a1' : fForms_add n (ad 8 0) (ad 23 v) (nI s) 0 (nI o) z = some z1 := a1
    have a2' : fForms_add n (ad 8 0) (ad 25 v) (nI s) 1 (nI o) z1 = some z2 := a2
    have a3' : fForms_add n (ad 8 0) (ad 27 v) (nI s) 2 (nI o) z2 = some z3 := a3
    rw [a1', Option.bind_some, q_fR (hC1.val hv) (k := 2) (r := some (ad 25 v)) rfl, Option.bind_some, Option.bind_some, is hF1, Option.bind_some, a2', Option.bind_some, q_fR (hC2.val hv) (k := 3) (r := some (ad 27 v)) rfl, Option.bind_some, Option.bind_some, is hF2, Option.bind_some, a3', Option.bind_some]
  · have e : es ++ fE s v o = es ++ [(s, v, 0, o)] ++ [(s, v, 1, o)] ++ [(s, v, 2, o)] := by simp [fE]
    rw [e]
    exact hF3
theorem fm_J (hC : C1 z ad ce sI sO sL sN au) (hV : VS sI sO sL sN) (hF : FR z ad es) (hl : es.length + 3 ≤ 60) (n : Nat) (K : Nat → Int32 → gS → Option gS) {i : Nat} (hi : i < sN 0 0) : ∃ (z1 : gS) (ce1 : Nat → Nat → gE), fMain_gatherForms_J58 n K (ad 0 0) (nI i) (some (ad 13 i)) z = K (ad 0 0) (nI (i + 1)) z1 ∧ C1 z1 ad ce1 sI sO sL sN au ∧ FR z1 ad (es ++ fNw sO i) ∧ FM z z1 ad := by
  have hse := hC.sec hi
  have hm := c_m hC
  obtain ⟨-, p2, p3, -⟩ := hV.2.2.2.2.1 i hi
  unfold fMain_gatherForms_J58
  simp only [g_n]
  rw [q_fR hse (k := 3) (r := (sO 0 i).map (ad 22)) rfl, Option.bind_some]
  unfold fNw
  cases eo : sO 0 i with
  | none =>
    simp only [Option.map_none, g_n, List.append_nil]
    exact ⟨z, ce, by rw [nI_1], hC, hF, rfl, fun _ _ => rfl⟩
  | some v =>
    obtain ⟨z1, ce1, a1, hC1, hF1, hM1⟩ := fm_addAll hC hF hl n (s := i) (o := 0) (p2 v eo).1
    simp only [Option.map_some, g_n]
    have a1' : fForms_addAll n (ad 8 0) (nI i) (ad 22 v) 0 z = some z1 := a1
    have is : g_is z (ad 8 0) 7 = some () := by
      obtain ⟨g, f1, f2, f3, b8, -⟩ := hF
      exact q_is b8
    refine ⟨z1, ce1, ?_, hC1, hF1, hM1⟩
    rw [q_fR hm (k := 5) (r := some (ad 8 0)) rfl, Option.bind_some, Option.bind_some, Option.bind_some, Option.bind_some, is, Option.bind_some, a1', Option.bind_some, nI_1]
theorem fm_loop (hV : VS sI sO sL sN) (n : Nat) (hS : sN 0 0 ≤ 10) : ∀ (k i : Nat) (z : gS) (ce : Nat → Nat → gE), i ≤ sN 0 0 → sN 0 0 < i + k → C1 z ad ce sI sO sL sN au → FR z ad (fLs sI sO i) → ∃ (z1 : gS) (ce1 : Nat → Nat → gE), fMain_gatherForms_L9 n k (ad 0 0) (nI i) z = some z1 ∧ C1 z1 ad ce1 sI sO sL sN au ∧ FR z1 ad (fLs sI sO (sN 0 0)) ∧ FM z z1 ad := by
  intro k
  induction k with
  | zero => intro i z ce q1 q2; omega
  | succ k ih =>
    intro i z ce q1 q2 hC hF
    have hm := c_m hC
    rw [fMain_gatherForms_L9, q_fI hm (k := 6) (x := nI (sN 0 0)) rfl, Option.bind_some]
    by_cases c0 : sN 0 0 ≤ i
    · have e : i = sN 0 0 := by omega
      subst e
      exact ⟨z, ce, by rw [if_pos (Int32.le_refl _)], hC, hF, rfl, fun _ _ => rfl⟩
    · have hi : i < sN 0 0 := by omega
      have hl := fLs_len sI sO i
      have hse := hC.sec hi
      obtain ⟨-, p2, p3, -⟩ := hV.2.2.2.2.1 i hi
      rw [if_neg (fun q => c0 ((nI_leI (by omega) (by omega)).mp q)), q_is hm, Option.bind_some, q_bp (fs_some hC n hi)]
      simp only [g_n]
      rw [q_fR hse (k := 4) (r := (sO 1 i).map (ad 22)) rfl, Option.bind_some]
      -- behind the old one
      have go : ∀ (y : gS) (cy : Nat → Nat → gE) (ey : List (Nat × Nat × Nat × Nat)), C1 y ad cy sI sO sL sN au → FR y ad (fLs sI sO i ++ ey) → ey = fOd sI sO i → FM z y ad → ∃ (z1 : gS) (ce1 : Nat → Nat → gE), fMain_gatherForms_J58 n (fun a0b i1b z => fMain_gatherForms_L9 n k a0b i1b z) (ad 0 0) (nI i) (some (ad 13 i)) y = some z1 ∧ C1 z1 ad ce1 sI sO sL sN au ∧ FR z1 ad (fLs sI sO (sN 0 0)) ∧ FM z z1 ad := by
        intro y cy ey hCy hFy hey hMy
        have hle := fOd_len sI sO i
        rw [← hey] at hle
        obtain ⟨z2, ce2, a2, hC2, hF2, hM2⟩ := fm_J hCy hV hFy (by simp; omega) n (fun a0b i1b z => fMain_gatherForms_L9 n k a0b i1b z) hi
        rw [a2]
        have hF2' : FR z2 ad (fLs sI sO (i + 1)) := by
          rw [fLs, ← List.append_assoc, ← hey]
          exact hF2
        obtain ⟨z3, ce3, a3, hC3, hF3, hM3⟩ := ih (i + 1) z2 ce2 (by omega) (by omega) hC2 hF2'
        exact ⟨z3, ce3, a3, hC3, hF3, (hMy.tr hM2).tr hM3⟩
      cases eo : sO 1 i with
      | none =>
        simp only [Option.map_none, g_n]
        exact go z ce [] hC (by rw [List.append_nil]; exact hF) (by unfold fOd; rw [eo]) ⟨rfl, fun _ _ => rfl⟩
      | some v =>
        simp only [Option.map_some, g_n]
        rw [q_fI hm (k := 10) (x := sI 7 0) rfl, Option.bind_some, q_fI hse (k := 5) (x := sI 3 i) rfl, Option.bind_some]
        by_cases c1 : sI 3 i ≤ sI 7 0
        · rw [if_pos c1]
          exact go z ce [] hC (by rw [List.append_nil]; exact hF) (by unfold fOd; rw [eo]; simp only [if_pos c1]) ⟨rfl, fun _ _ => rfl⟩
        · obtain ⟨z1, ce1, a1, hC1, hF1, hM1⟩ := fm_addAll hC hF (by omega) n (s := i) (o := 1) (p3 v eo).1
          have a1' : fForms_addAll n (ad 8 0) (nI i) (ad 22 v) 1 z = some z1 := a1
          have is : g_is z (ad 8 0) 7 = some () := by
            obtain ⟨g, f1, f2, f3, b8, -⟩ := hF
            exact q_is b8
          rw [if_neg c1, q_fR hm (k := 5) (r := some (ad 8 0)) rfl, Option.bind_some, Option.bind_some, Option.bind_some, Option.bind_some, is, Option.bind_some, a1', Option.bind_some]
          exact go z1 ce1 _ hC1 hF1 (by unfold fOd; rw [eo]; simp only [if_neg c1]) hM1
theorem fm_gather (hC : C1 z ad ce sI sO sL sN au) (hV : VS sI sO sL sN) (n : Nat) (hn : 1000 < n) : ∃ (z1 : gS) (ce1 : Nat → Nat → gE), fMain_gatherForms n (ad 0 0) z = some z1 ∧ C1 z1 ad ce1 sI sO sL sN au ∧ FR z1 ad (fLs sI sO (sN 0 0)) ∧ FM z z1 ad := by
  have hm := c_m hC
  have hS := hC.nS
  obtain ⟨h1, h2, h3, h4, h5, h6, h7, h8, h9⟩ := id hC
  obtain ⟨c, g, f1, f2, f3, x8, x9, x10, x11, x12⟩ := h9
  have b8 := h1.get (t := 8) (i := 0) (by simp [cnC]) x8
  have b9 := h1.get (t := 9) (i := 0) (by simp [cnC]) x9
  have b10 := h1.get (t := 10) (i := 0) (by simp [cnC]) x10
  have b11 := h1.get (t := 11) (i := 0) (by simp [cnC]) x11
  have b12 := h1.get (t := 12) (i := 0) (by simp [cnC]) x12
  obtain ⟨w, ew⟩ : ∃ w, w = g_up z (ad 8 0) (.inr (7, [.ref (ad 9 0), .ref (ad 10 0), .ref (ad 11 0), .ref (ad 12 0), .int 0])) := ⟨_, rfl⟩
  have e1 : fForms_clear n (ad 8 0) z = some w := by
    unfold fForms_clear
    rw [q_pF b8 (Nat.le_of_ble_eq_true rfl), Option.bind_some, ew]
    rfl
  have hM : FM z w ad := ⟨by rw [ew]; rfl, fun b hb => by rw [ew, q_un (hb 8 (by omega) (by omega))]⟩
  have hF : FR w ad (fLs sI sO 0) := by
    refine ⟨g, f1, f2, f3, by rw [ew, q_up]; rfl, ?_, ?_, ?_, ?_, Nat.zero_le _, fun k s v f o hk => by simp [fLs] at hk⟩
    · rw [ew, q_un (fm_ne hC (by omega) (by omega) (by omega))]; exact b9
    · rw [ew, q_un (fm_ne hC (by omega) (by omega) (by omega))]; exact b10
    · rw [ew, q_un (fm_ne hC (by omega) (by omega) (by omega))]; exact b11
    · rw [ew, q_un (fm_ne hC (by omega) (by omega) (by omega))]; exact b12
  obtain ⟨ce1, hC1⟩ := hC.frm hM hF
  obtain ⟨z2, ce2, a2, hC2, hF2, hM2⟩ := fm_loop hV n hS n 0 w ce1 (by omega) (by omega) hC1 hF
  refine ⟨z2, ce2, ?_, hC2, hF2, hM.tr hM2⟩
  unfold fMain_gatherForms
  rw [nI_0] at a2
  rw [q_fR hm (k := 5) (r := some (ad 8 0)) rfl, Option.bind_some, Option.bind_some, q_is b8, Option.bind_some, e1, Option.bind_some, a2]
end FS
