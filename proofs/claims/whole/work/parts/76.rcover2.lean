section RC2
variable {z : gS} {bd : Nat → Nat} {iv : Nat → Int32} {fa : Nat → Nat → Int32} {sI : Nat → Nat → Int32} {sO : Nat → Nat → Option Nat} {sL : Nat → Nat → List Int32} {sN : Nat → Nat → Nat} {i : Nat} {xs : List Int32}
/-- done and covered are written -/
theorem r_at (h : R2 z bd iv fa) (hi : i < 12) {s : Nat × List Int32 × Nat} (hL : LRf fa i xs s) (d : Nat) : ∃ z1 : gS, g_stI z .int (bd 22) (nI i) (nI d) = some z1 ∧ R2 z1 bd iv (ru fa 22 i (nI d)) ∧ z1.2 = z.2 ∧ LRf (ru fa 22 i (nI d)) i xs (d, s.2.1, s.2.2) ∧ FRf fa (ru fa 22 i (nI d)) i := by
  obtain ⟨l1, l2, l3, l4, l5, l6⟩ := hL
  obtain ⟨z1, e1, h1, s1⟩ := r_st h (k := 22) (ty := .int) (by unfold aK; omega) rfl (j := i) (by show _ < 12; omega) (nI d)
  refine ⟨z1, e1, h1, s1, ⟨fun j hj => ?_, ?_, ru_s _ _ _ _, fun j hj => ?_, ?_, ?_⟩, FRf.ru1 _ _ (by omega) (by omega) (by omega) (by omega)⟩
  · rw [ru_t _ _ (by omega)]; exact l1 j hj
  · rw [ru_t _ _ (by omega)]; exact l2
  · rw [ru_t _ _ (by omega)]; exact l4 j hj
  · rw [ru_t _ _ (by omega)]; exact l5
  · rw [ru_t _ _ (by omega)]; exact l6
theorem r_cov (h : R2 z bd iv fa) (hi : i < 12) {s : Nat × List Int32 × Nat} (hL : LRf fa i xs s) (c : Nat) : ∃ z1 : gS, g_stI z .int (bd 25) (nI i) (nI c) = some z1 ∧ R2 z1 bd iv (ru fa 25 i (nI c)) ∧ z1.2 = z.2 ∧ LRf (ru fa 25 i (nI c)) i xs (s.1, s.2.1, c) ∧ FRf fa (ru fa 25 i (nI c)) i := by
  obtain ⟨l1, l2, l3, l4, l5, l6⟩ := hL
  obtain ⟨z1, e1, h1, s1⟩ := r_st h (k := 25) (ty := .int) (by unfold aK; omega) rfl (j := i) (by show _ < 12; omega) (nI c)
  refine ⟨z1, e1, h1, s1, ⟨fun j hj => ?_, ?_, ?_, fun j hj => ?_, ?_, ru_s _ _ _ _⟩, FRf.ru1 _ _ (by omega) (by omega) (by omega) (by omega)⟩
  · rw [ru_t _ _ (by omega)]; exact l1 j hj
  · rw [ru_t _ _ (by omega)]; exact l2
  · rw [ru_t _ _ (by omega)]; exact l3
  · rw [ru_t _ _ (by omega)]; exact l4 j hj
  · rw [ru_t _ _ (by omega)]; exact l5
theorem r_stars (h : R2 z bd iv fa) (n : Nat) (hn : 1000 < n) (hi : i < 12) {s : Nat × List Int32 × Nat} (hL : LRf fa i xs s) (hT : s.2.1.length + 3 ≤ 300) (k16 : Nat → Int32 → Int32 → Int32 → Int32 → gS → Option gS) (li en h4 : Int32) (M : Nat) : ∃ (z1 : gS) (fa1 : Nat → Nat → Int32), fRef_cover_L219 n k16 n (bd 0) (nI i) li en h4 (nI M) 0 z = k16 (bd 0) (nI i) li en h4 z1 ∧ R2 z1 bd iv fa1 ∧ z1.2 = z.2 ∧ LRf fa1 i xs (s.1 + M, s.2.1 ++ [42, 42, 42], s.2.2 + 1) ∧ FRf fa fa1 i := by
  obtain ⟨z1, f1, e1, h1, s1, L1, F1⟩ := r_tellS h n hi hL (by omega) 42
  obtain ⟨z2, f2, e2, h2, s2, L2, F2⟩ := r_tellS h1 n hi L1 (by simp; omega) 42
  obtain ⟨z3, f3, e3, h3, s3, L3, F3⟩ := r_tellS h2 n hi L2 (by simp; omega) 42
  obtain ⟨z4, e4, h4', s4, L4, F4⟩ := r_cov h3 hi L3 (s.2.2 + 1)
  obtain ⟨z5, e5, h5, s5, L5, F5⟩ := r_at h4' hi L4 (s.1 + M)
  refine ⟨z5, _, ?_, h5, by rw [s5, s4, s3, s2, s1], ?_, (((F1.tr F2).tr F3).tr F4).tr F5⟩
  · obtain ⟨m, rfl⟩ : ∃ m, n = m + 4 := ⟨n - 4, by omega⟩
    rw [fRef_cover_L219, if_neg (by decide), r_is h, Option.bind_some, e1, Option.bind_some, fRef_cover_L219, if_neg (by decide), r_is h1, Option.bind_some, e2, Option.bind_some, fRef_cover_L219, if_neg (by decide), r_is h2, Option.bind_some, e3, Option.bind_some, fRef_cover_L219, if_pos (by decide)]
    rw [r_R h3 25 rfl, Option.bind_some, Option.bind_some, r_ld h3 (k := 25) (ty := .int) (by unfold aK; omega) rfl (by show _ < 12; omega), L3.2.2.2.2.2, Option.bind_some, nI_1, e4, Option.bind_some, r_R h4' 22 rfl, Option.bind_some, Option.bind_some, r_ld h4' (k := 22) (ty := .int) (by unfold aK; omega) rfl (by show _ < 12; omega), L4.2.2.1, Option.bind_some, nI_add, e5, Option.bind_some]
  · have : s.2.1 ++ [42] ++ [42] ++ [42] = s.2.1 ++ [(42 : Int32), 42, 42] := by simp
    rw [← this]
    exact L5
theorem r_done (h : R2 z bd iv fa) (hv : RV iv fa sI sO sL sN) (hV : VS sI sO sL sN) (hnV : sN 0 3 ≤ 24) (n : Nat) (hn : 1000 < n) (hi : i < 12) {s : Nat × List Int32 × Nat} (hL : LRf fa i xs s) (hxl : xs.length ≤ 300) (hx : ∀ x ∈ xs, cOK x) (hI : cvI xs s) (hd : s.1 < xs.length) (k16 : Nat → Int32 → Int32 → Int32 → Int32 → gS → Option gS) (li : Int32) : ∃ (z1 : gS) (fa1 : Nat → Nat → Int32), fRef_cover_L57 n k16 1 (bd 0) (nI i) li (nI (300 * i + xs.length)) 0 (nI (300 * i + s.1)) (nI (mxf (xs.drop s.1) (rLs sI sO sL sN (sN 0 3)) 0)) (nI (sN 0 3)) z = k16 (bd 0) (nI i) li (nI (300 * i + xs.length)) 0 z1 ∧ R2 z1 bd iv fa1 ∧ z1.2 = z.2 ∧ LRf fa1 i xs (cvS (rLs sI sO sL sN (sN 0 3)) xs s) ∧ FRf fa fa1 i := by
  have i3 : g_fI z (bd 0) 9 3 = some (nI (sN 0 3)) := by rw [r_I h 3 rfl, hv.2.2.1]
  have hA : ∀ f ∈ rLs sI sO sL sN (sN 0 3), 4 ≤ f.length := fun f hf => (rLs_bd hV (Nat.le_refl _) f hf).1
  have hI' := cvS_inv hA hx hI hd
  obtain ⟨I1, I2, I3, I4⟩ := hI
  have hml := mxf_le (r := xs.drop s.1) (A := rLs sI sO sL sN (sN 0 3))
  rw [List.length_drop] at hml
  rw [fRef_cover_L57, i3, Option.bind_some, if_pos (Int32.le_refl _), if_pos rfl]
  by_cases m0 : mxf (xs.drop s.1) (rLs sI sO sL sN (sN 0 3)) 0 = 0
  · have hx1 : xs[s.1]? = some xs[s.1] := List.getElem?_eq_getElem hd
    have hx2 := hL.1 s.1 hd
    rw [hx1] at hx2
    obtain ⟨z1, f1, e1, h1, s1, L1, F1⟩ := r_tellS h n hi hL (by omega) xs[s.1]
    obtain ⟨z2, e2, h2, s2, L2, F2⟩ := r_at h1 hi L1 (s.1 + 1)
    refine ⟨z2, _, ?_, h2, s2.trans s1, ?_, F1.tr F2⟩
    · rw [m0, if_pos (show nI 0 = 0 from rfl), r_R h 20 rfl, Option.bind_some, Option.bind_some, r_ld h (k := 20) (ty := .int) (by unfold aK; omega) rfl (by show _ < 3600; omega), ← Option.some.inj hx2, Option.bind_some, r_is h, Option.bind_some, e1, Option.bind_some, r_R h1 22 rfl, Option.bind_some, Option.bind_some, r_ld h1 (k := 22) (ty := .int) (by unfold aK; omega) rfl (by show _ < 12; omega), L1.2.2.1, Option.bind_some, nI_1, e2, Option.bind_some]
    · have : cvS (rLs sI sO sL sN (sN 0 3)) xs s = (s.1 + 1, s.2.1 ++ [xs[s.1]], s.2.2) := by
        unfold cvS
        rw [if_pos m0, hx1]
        rfl
      rw [this]
      exact L2
  · have ecv : cvS (rLs sI sO sL sN (sN 0 3)) xs s = (s.1 + mxf (xs.drop s.1) (rLs sI sO sL sN (sN 0 3)) 0, s.2.1 ++ [42, 42, 42], s.2.2 + 1) := by
      unfold cvS
      rw [if_neg m0]
    rw [ecv] at hI' ⊢
    have q2 : (s.2.1 ++ [(42 : Int32), 42, 42]).length ≤ s.1 + mxf (xs.drop s.1) (rLs sI sO sL sN (sN 0 3)) 0 := hI'.2.1
    rw [List.length_append] at q2
    have q3 : [(42 : Int32), 42, 42].length = 3 := rfl
    obtain ⟨z1, f1, e1, r⟩ := r_stars h n hn hi hL (by omega) k16 li (nI (300 * i + xs.length)) 0 (mxf (xs.drop s.1) (rLs sI sO sL sN (sN 0 3)) 0)
    refine ⟨z1, f1, ?_, r⟩
    rw [if_neg (show ¬ nI _ = 0 from fun q => m0 ((nI_eq (b := 0) (by omega) (by omega)).mp q)), e1]
theorem r_cover (hV : VS sI sO sL sN) (hnS : sN 0 0 ≤ 10) (hnV : sN 0 3 ≤ 24) (n : Nat) (hn : 1000 < n) (hi : i < 12) (hxl : xs.length ≤ 300) (hx : ∀ x ∈ xs, cOK x) (last : Bool) (li : Int32) (hli : li = 0 ↔ last = false) : ∀ (m k : Nat) (s : Nat × List Int32 × Nat) (z : gS) (fa : Nat → Nat → Int32), xs.length ≤ s.1 + m → m < k → cvI xs s → R2 z bd iv fa → RV iv fa sI sO sL sN → LRf fa i xs s → ∃ (z1 : gS) (fa1 : Nat → Nat → Int32), fRef_cover_L16 n k (bd 0) (nI i) li (nI (300 * i + xs.length)) 0 z = some z1 ∧ R2 z1 bd iv fa1 ∧ z1.2 = z.2 ∧ LRf fa1 i xs (cv (rLs sI sO sL sN (sN 0 3)) last xs m s) ∧ FRf fa fa1 i := by
  have e3 : (300 : Int32) * nI i = nI (300 * i) := by rw [show (300 : Int32) = nI 300 from rfl, pk_mul]
  have beg : ∀ (k : Nat) (s : Nat × List Int32 × Nat) (z : gS) (fa : Nat → Nat → Int32) (h4 : Int32), R2 z bd iv fa → LRf fa i xs s → s.1 ≤ xs.length → fRef_cover_L16 n (k + 1) (bd 0) (nI i) li (nI (300 * i + xs.length)) h4 z = if xs.length ≤ s.1 then some z else if h4 = 0 then fRef_cover_L57 n (fun a0b i1b i2b i3b i4b z => fRef_cover_L16 n k a0b i1b i2b i3b i4b z) n (bd 0) (nI i) li (nI (300 * i + xs.length)) h4 (nI (300 * i + s.1)) 0 0 z else some z := by
    intro k s z fa h4 h hL q
    have ld := r_ld h (k := 22) (ty := .int) (by unfold aK; omega) rfl (j := i) (by show _ < 12; omega)
    rw [hL.2.2.1] at ld
    rw [fRef_cover_L16, r_R h 22 rfl, Option.bind_some, Option.bind_some, ld, Option.bind_some, e3, nI_add]
    by_cases c0 : xs.length ≤ s.1
    · rw [if_pos ((nI_leI (by omega) (by omega)).mpr (by omega)), if_pos c0]
    · rw [if_neg (fun w => c0 (by have := (nI_leI (by omega) (by omega)).mp w; omega)), if_neg c0]
      by_cases c1 : h4 = 0
      · rw [if_pos c1, if_pos c1, Option.bind_some, Option.bind_some, ld, Option.bind_some, nI_add]
      · rw [if_neg c1, if_neg c1]
  intro m
  induction m with
  | zero =>
    intro k s z fa q1 q2 hI h hv hL
    obtain ⟨k, rfl⟩ : ∃ k', k = k' + 1 := ⟨k - 1, by omega⟩
    exact ⟨z, fa, by rw [beg k s z fa 0 h hL hI.1, if_pos (by omega)], h, rfl, hL, FRf.rf fa i⟩
  | succ m ih =>
    intro k s z fa q1 q2 hI h hv hL
    obtain ⟨k, rfl⟩ : ∃ k', k = k' + 1 := ⟨k - 1, by omega⟩
    rw [cv, beg k s z fa 0 h hL hI.1]
    by_cases c0 : xs.length ≤ s.1
    · rw [if_pos c0, if_pos c0]
      exact ⟨z, fa, rfl, h, rfl, hL, FRf.rf fa i⟩
    · rw [if_neg c0, if_neg c0, if_pos rfl]
      have hr : ∀ j, j < (xs.drop s.1).length → (xs.drop s.1)[j]? = some (fa 20 (300 * i + s.1 + j)) := fun j hj => by
        rw [List.length_drop] at hj
        rw [List.getElem?_drop, hL.1 (s.1 + j) (by omega), Nat.add_assoc]
      have hlen : 300 * i + s.1 + (xs.drop s.1).length = 300 * i + xs.length := by rw [List.length_drop]; omega
      have L := r_L57 h hv hV hnS hnV n hn (fun a0b i1b i2b i3b i4b z => fRef_cover_L16 n k a0b i1b i2b i3b i4b z) (nI i) li last hli hr (by rw [hlen]; omega) n 0 (by omega) (by omega)
      rw [hlen] at L
      have z0 : hB (!last && my (xs.drop s.1) (rLs sI sO sL sN 0)) = 0 := by cases last <;> rfl
      rw [z0, show mxf (xs.drop s.1) (rLs sI sO sL sN 0) 0 = 0 from rfl, nI_0] at L
      rw [L]
      by_cases c1 : last = false ∧ my (xs.drop s.1) (rLs sI sO sL sN (sN 0 3)) = true
      · rw [if_pos c1]
        have hh : hB (!last && my (xs.drop s.1) (rLs sI sO sL sN (sN 0 3))) = 1 := by rw [c1.1, c1.2]; rfl
        have i3 : g_fI z (bd 0) 9 3 = some (nI (sN 0 3)) := by rw [r_I h 3 rfl, hv.2.2.1]
        obtain ⟨k, rfl⟩ : ∃ k', k = k' + 1 := ⟨k - 1, by omega⟩
        refine ⟨z, fa, ?_, h, rfl, hL, FRf.rf fa i⟩
        rw [hh, fRef_cover_L57, i3, Option.bind_some, if_pos (Int32.le_refl _), if_neg (by decide), beg k s z fa 1 h hL hI.1, if_neg c0, if_neg (by decide)]
      · rw [if_neg c1]
        have hh : hB (!last && my (xs.drop s.1) (rLs sI sO sL sN (sN 0 3))) = 0 := by
          cases e1 : last with
          | true => rfl
          | false =>
            cases e2 : my (xs.drop s.1) (rLs sI sO sL sN (sN 0 3)) with
            | true => exact absurd ⟨e1, e2⟩ c1
            | false => rfl
        obtain ⟨z1, f1, a1, h1, s1, L1, F1⟩ := r_done h hv hV hnV n hn hi hL hxl hx hI (by omega) (fun a0b i1b i2b i3b i4b z => fRef_cover_L16 n k a0b i1b i2b i3b i4b z) li
        have hA : ∀ f ∈ rLs sI sO sL sN (sN 0 3), 4 ≤ f.length := fun f hf => (rLs_bd hV (Nat.le_refl _) f hf).1
        have g1 := cvS_gt (rLs sI sO sL sN (sN 0 3)) xs s
        obtain ⟨z2, f2, a2, h2, s2, L2, F2⟩ := ih k (cvS (rLs sI sO sL sN (sN 0 3)) xs s) z1 f1 (by omega) (by omega) (cvS_inv hA hx hI (by omega)) h1 (hv.keep (fun q hq => F1.1 q (Or.inl hq))) L1
        refine ⟨z2, f2, ?_, h2, s2.trans s1, L2, F1.tr F2⟩
        rw [hh, a1]
        exact a2
end RC2
