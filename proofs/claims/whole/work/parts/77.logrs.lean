section LU
variable {bd : Nat → Nat} {iv : Nat → Int32} {fa fa1 : Nat → Nat → Int32} {sI : Nat → Nat → Int32} {sO : Nat → Nat → Option Nat} {sL : Nat → Nat → List Int32} {sN : Nat → Nat → Nat} {au : List (Int32 × Int32 × Int32)} {i : Nat} {xs : List Int32} {s : Nat × List Int32 × Nat}
theorem RS.logU (h : RS iv fa sI sO sL sN au) (hi : i < sN 0 1) (hl : ∀ j, j < sN 0 1 → (sL 1 j).length ≤ 300 ∧ (sL 2 j).length ≤ 300) (F : FRf fa fa1 i) (L : LRf fa1 i xs s) : RS iv fa1 sI sO (ru (ru sL 1 i xs) 2 i s.2.1) (ru (ru sN 1 i s.1) 2 i s.2.2) au := by
  obtain ⟨⟨a1, a2, a3, a4, a5, a6, a7, a8, a9⟩, b1, b2, b3, b4, b5, b6, b7, b8⟩ := h
  obtain ⟨F1, F2, F3⟩ := F
  obtain ⟨l1, l2, l3, l4, l5, l6⟩ := L
  have n0 : ∀ j, ru (ru sN 1 i s.1) 2 i s.2.2 0 j = sN 0 j := lg_n sN i s.1 s.2.2
  have nt : ∀ t j, t ≠ 1 → t ≠ 2 → ru (ru sN 1 i s.1) 2 i s.2.2 t j = sN t j := fun t j p q => by rw [ru_t _ _ q, ru_t _ _ p]
  have lt : ∀ t j, t ≠ 1 → t ≠ 2 → ru (ru sL 1 i xs) 2 i s.2.1 t j = sL t j := fun t j p q => by rw [ru_t _ _ q, ru_t _ _ p]
  refine ⟨⟨a1, by rw [n0]; exact a2, by rw [n0]; exact a3, by rw [n0]; exact a4, by rw [n0]; exact a5, a6, by rw [lt 3 0 (by omega) (by omega)]; exact a7, a8, a9⟩, ?_, ?_, ?_, ?_, ?_, ?_, ?_, ?_⟩
  · rw [n0, F1 7 (by omega), F1 8 (by omega), F1 9 (by omega)]
    intro v hv
    rw [nt 5 v (by omega) (by omega), lt 0 v (by omega) (by omega)]
    exact b1 v hv
  · rw [n0, F1 10 (by omega), F1 11 (by omega), F1 12 (by omega), F1 13 (by omega), F1 14 (by omega), F1 15 (by omega), F1 16 (by omega)]
    exact b2
  · rw [n0, F1 15 (by omega), F1 16 (by omega)]
    exact b3
  · rw [lt 3 0 (by omega) (by omega), F1 17 (by omega)]
    exact b4
  · rw [n0, F1 19 (by omega), F1 26 (by omega)]
    intro j hj
    obtain ⟨p1, p2, p3, p4, p5, p6, p7, p8⟩ := b5 j hj
    by_cases q : j = i
    · subst q
      rw [ru_t (ru sL 1 j xs) _ (by omega), ru_s, ru_s, ru_t (ru sN 1 j s.1) _ (by omega), ru_s, ru_s]
      exact ⟨p1, l1, l2, l3, l4, l5, l6, p8⟩
    · have e1 : ru (ru sL 1 i xs) 2 i s.2.1 1 j = sL 1 j := by rw [ru_n _ _ (by omega), ru_n _ _ (by omega)]
      have e2 : ru (ru sL 1 i xs) 2 i s.2.1 2 j = sL 2 j := by rw [ru_n _ _ (by omega), ru_n _ _ (by omega)]
      have e3 : ru (ru sN 1 i s.1) 2 i s.2.2 1 j = sN 1 j := by rw [ru_n _ _ (by omega), ru_n _ _ (by omega)]
      have e4 : ru (ru sN 1 i s.1) 2 i s.2.2 2 j = sN 2 j := by rw [ru_n _ _ (by omega), ru_n _ _ (by omega)]
      obtain ⟨g1, g2⟩ := hl j hj
      rw [e1, e2, e3, e4, F2 21 j (by omega) (by omega) q, F2 22 j (by omega) (by omega) q, F2 24 j (by omega) (by omega) q, F2 25 j (by omega) (by omega) q]
      exact ⟨p1, fun k hk => by rw [F3 20 _ (by omega) (Or.inl rfl)]; exact p2 k hk, p3, p4, fun k hk => by rw [F3 23 _ (by omega) (Or.inr rfl)]; exact p5 k hk, p6, p7, p8⟩
  · rw [n0, F1 26 (by omega)]
    intro j q1 q2
    rw [F2 21 j (by omega) (by omega) (by omega), F2 22 j (by omega) (by omega) (by omega), F2 24 j (by omega) (by omega) (by omega), F2 25 j (by omega) (by omega) (by omega)]
    exact b6 j q1 q2
  · rw [F1 27 (by omega), F1 28 (by omega), F1 29 (by omega)]
    exact b7
  · rw [n0, F1 30 (by omega), F1 31 (by omega), F1 32 (by omega)]
    intro k hk
    rw [nt 3 k (by omega) (by omega), nt 4 k (by omega) (by omega)]
    exact b8 k hk
theorem RS.cls (h : RS iv fa sI sO sL sN au) (hi : i < sN 0 1) (b : Int32) : RS iv (ru fa 26 i b) (ru sI 5 i b) sO sL sN au := by
  obtain ⟨⟨a1, a2, a3, a4, a5, a6, a7, a8, a9⟩, b1, b2, b3, b4, b5, b6, b7, b8⟩ := h
  refine ⟨⟨a1, a2, a3, a4, a5, a6, a7, a8, a9⟩, b1, b2, b3, b4, fun j hj => ?_, fun j q1 q2 => ?_, b7, b8⟩
  · obtain ⟨p1, p2, p3, p4, p5, p6, p7, p8⟩ := b5 j hj
    refine ⟨p1, p2, p3, p4, p5, p6, p7, ?_⟩
    by_cases q : j = i
    · subst q
      rw [ru_s, ru_s]
    · rw [ru_i _ _ q, ru_i _ _ q]
      exact p8
  · obtain ⟨p1, p2, p3, p4, p5⟩ := b6 j q1 q2
    exact ⟨p1, p2, p3, p4, by rw [ru_i _ _ (show j ≠ i by omega)]; exact p5⟩
theorem VS.logU (h : VS sI sO sL sN) (hi : i < sN 0 1) {b : Int32} (hb : b = 0 ∨ b = 1) (hI : cvI xs s) (hx : ∀ x ∈ xs, cOK x) (hxl : xs.length ≤ 300) : VS (ru sI 5 i b) sO (ru (ru sL 1 i xs) 2 i s.2.1) (ru (ru sN 1 i s.1) 2 i s.2.2) := by
  obtain ⟨d1, d2, d3, d4, d5, d6, d7⟩ := h
  have n0 : ∀ j, ru (ru sN 1 i s.1) 2 i s.2.2 0 j = sN 0 j := lg_n sN i s.1 s.2.2
  have nt : ∀ t j, t ≠ 1 → t ≠ 2 → ru (ru sN 1 i s.1) 2 i s.2.2 t j = sN t j := fun t j p q => by rw [ru_t _ _ q, ru_t _ _ p]
  have lt : ∀ t j, t ≠ 1 → t ≠ 2 → ru (ru sL 1 i xs) 2 i s.2.1 t j = sL t j := fun t j p q => by rw [ru_t _ _ q, ru_t _ _ p]
  have it : ∀ t j, t ≠ 5 → ru sI 5 i b t j = sI t j := fun t j p => ru_t _ _ p
  refine ⟨by rw [it 7 0 (by omega)]; exact d1, by rw [it 8 0 (by omega), it 8 1 (by omega), it 8 2 (by omega)]; exact d2, by rw [lt 3 0 (by omega) (by omega)]; exact d3, ?_, ?_, ?_, ?_⟩
  · rw [n0, n0]
    intro v hv
    rw [nt 5 v (by omega) (by omega), lt 0 v (by omega) (by omega)]
    exact d4 v hv
  · rw [n0]
    intro q hq
    rw [it 4 q (by omega), it 3 q (by omega)]
    obtain ⟨p1, p2, p3, p4⟩ := d5 q hq
    refine ⟨p1, fun v hv => ?_, fun v hv => ?_, p4⟩
    · rw [n0, nt 5 v (by omega) (by omega)]; exact p2 v hv
    · rw [n0, nt 5 v (by omega) (by omega)]; exact p3 v hv
  · rw [n0]
    intro j hj
    rw [n0, n0]
    obtain ⟨p1, p2, p3, p4, p5, p6, p7, p8⟩ := d6 j hj
    by_cases q : j = i
    · subst q
      have e1 : ru (ru sL 1 j xs) 2 j s.2.1 1 j = xs := by rw [ru_t _ _ (by omega), ru_s]
      have e3 : ru (ru sN 1 j s.1) 2 j s.2.2 1 j = s.1 := by rw [ru_t _ _ (by omega), ru_s]
      rw [e1, e3, ru_s, ru_s, ru_s]
      obtain ⟨I1, I2, I3, I4⟩ := hI
      exact ⟨hb, p2, hx, I4, I1, hxl, I2, I3⟩
    · have e1 : ru (ru sL 1 i xs) 2 i s.2.1 1 j = sL 1 j := by rw [ru_n _ _ (by omega), ru_n _ _ (by omega)]
      have e2 : ru (ru sL 1 i xs) 2 i s.2.1 2 j = sL 2 j := by rw [ru_n _ _ (by omega), ru_n _ _ (by omega)]
      have e3 : ru (ru sN 1 i s.1) 2 i s.2.2 1 j = sN 1 j := by rw [ru_n _ _ (by omega), ru_n _ _ (by omega)]
      have e4 : ru (ru sN 1 i s.1) 2 i s.2.2 2 j = sN 2 j := by rw [ru_n _ _ (by omega), ru_n _ _ (by omega)]
      rw [e1, e2, e3, e4, ru_i _ _ q]
      exact ⟨p1, p2, p3, p4, p5, p6, p7, p8⟩
  · rw [n0, n0, n0]
    intro k hk
    rw [nt 3 k (by omega) (by omega), nt 4 k (by omega) (by omega), it 6 k (by omega)]
    exact d7 k hk
theorem VS.lens (h : VS sI sO sL sN) : ∀ j, j < sN 0 1 → (sL 1 j).length ≤ 300 ∧ (sL 2 j).length ≤ 300 := fun j hj => by
  obtain ⟨p1, p2, p3, p4, p5, p6, p7, p8⟩ := h.2.2.2.2.2.1 j hj
  exact ⟨p6, by omega⟩
theorem RS.lrf (h : RS iv fa sI sO sL sN au) (hi : i < sN 0 1) : LRf fa i (sL 1 i) (sN 1 i, sL 2 i, sN 2 i) := by
  obtain ⟨p1, p2, p3, p4, p5, p6, p7, p8⟩ := h.2.2.2.2.2.1 i hi
  exact ⟨p2, p3, p4, p5, p6, p7⟩
theorem VS.cvi (h : VS sI sO sL sN) (hi : i < sN 0 1) (t : List Int32) : cvI (sL 1 i ++ t) (sN 1 i, sL 2 i, sN 2 i) := by
  obtain ⟨p1, p2, p3, p4, p5, p6, p7, p8⟩ := h.2.2.2.2.2.1 i hi
  exact ⟨by rw [List.length_append]; show sN 1 i ≤ _; omega, p7, p8, p4⟩
/-- the reference takes what is typed, character by character -/
theorem r_log (hV : VS sI sO sL sN) (hnS : sN 0 0 ≤ 10) (hnV : sN 0 3 ≤ 24) (n : Nat) (hn : 1000 < n) (hi : i < 12) {tp : List Int32} (hxl : xs.length + tp.length ≤ 300) (hx : ∀ x ∈ xs, cOK x) (ht : ∀ x ∈ tp, cOK x) : ∀ (k j : Nat) (s : Nat × List Int32 × Nat) (z : gS) (fa : Nat → Nat → Int32), j ≤ tp.length → tp.length < j + k → cvI (xs ++ tp.take j) s → R2 z bd iv fa → RV iv fa sI sO sL sN → LRf fa i (xs ++ tp.take j) s → (∀ j, j < tp.length → tp[j]? = some (fa 17 j)) → ∃ (z1 : gS) (fa1 : Nat → Nat → Int32), fRef_log_L50 n k (bd 0) (nI i) (nI tp.length) (nI j) z = some (nI tp.length, z1) ∧ R2 z1 bd iv fa1 ∧ z1.2 = z.2 ∧ LRf fa1 i (xs ++ tp) (if j < tp.length then cv (rLs sI sO sL sN (sN 0 3)) false (xs ++ tp) 300 s else s) ∧ FRf fa fa1 i := by
  have e3 : (300 : Int32) * nI i = nI (300 * i) := by rw [show (300 : Int32) = nI 300 from rfl, pk_mul]
  intro k
  induction k with
  | zero => intro j s z fa q1 q2; omega
  | succ k ih =>
    intro j s z fa q1 q2 hI h hv hL htp
    rw [fRef_log_L50]
    by_cases c0 : tp.length ≤ j
    · rw [if_pos ((nI_leI (by omega) (by omega)).mpr c0), if_neg (by omega)]
      rw [List.take_of_length_le c0] at hL
      exact ⟨z, fa, rfl, h, rfl, hL, FRf.rf fa i⟩
    · have hj : j < tp.length := by omega
      have lj : (xs ++ tp.take j).length = xs.length + j := by rw [List.length_append, List.length_take]; omega
      have hx2 := htp j hj
      rw [List.getElem?_eq_getElem hj] at hx2
      obtain ⟨l1, l2, l3, l4, l5, l6⟩ := hL
      rw [lj] at l2
      obtain ⟨z1, a1, h1, s1⟩ := r_st h (k := 20) (ty := .int) (by unfold aK; omega) rfl (j := 300 * i + (xs.length + j)) (by show _ < 3600; omega) tp[j]
      obtain ⟨z2, a2, h2, s2⟩ := r_st h1 (k := 21) (ty := .int) (by unfold aK; omega) rfl (j := i) (by show _ < 12; omega) (nI (xs.length + j + 1))
      have F12 : FRf fa (ru (ru fa 20 (300 * i + (xs.length + j)) tp[j]) 21 i (nI (xs.length + j + 1))) i := (FRf.ru2 fa _ (Or.inl rfl) (by omega)).tr (FRf.ru1 _ _ (by omega) (by omega) (by omega) (by omega))
      obtain ⟨fb, efb⟩ : ∃ fb, fb = ru (ru fa 20 (300 * i + (xs.length + j)) tp[j]) 21 i (nI (xs.length + j + 1)) := ⟨_, rfl⟩
      rw [← efb] at h2 F12
      have et : xs ++ tp.take (j + 1) = xs ++ tp.take j ++ [tp[j]] := by rw [List.append_assoc, List.take_append_getElem hj]
      have lj1 : (xs ++ tp.take (j + 1)).length = xs.length + j + 1 := by rw [et, List.length_append, lj]; rfl
      have hL2 : LRf fb i (xs ++ tp.take (j + 1)) s := by
        rw [efb]
        refine ⟨fun m hm => ?_, ?_, ?_, fun m hm => ?_, ?_, ?_⟩
        · rw [lj1] at hm
          rw [ru_t _ _ (by omega), et]
          by_cases q : m < xs.length + j
          · rw [List.getElem?_append_left (by omega), ru_i _ _ (by omega)]
            exact l1 m (by omega)
          · have : m = xs.length + j := by omega
            subst this
            rw [ru_s, List.getElem?_append_right (by omega), lj, Nat.sub_self]
            rfl
        · rw [ru_s, lj1]
        · rw [ru_t _ _ (by omega), ru_t _ _ (by omega)]; exact l3
        · rw [ru_t _ _ (by omega), ru_t _ _ (by omega)]; exact l4 m hm
        · rw [ru_t _ _ (by omega), ru_t _ _ (by omega)]; exact l5
        · rw [ru_t _ _ (by omega), ru_t _ _ (by omega)]; exact l6
      have hv2 : RV iv fb sI sO sL sN := hv.keep (fun q hq => F12.1 q (Or.inl hq))
      have hok : ∀ x ∈ xs ++ tp.take (j + 1), cOK x := fun x hm => (List.mem_append.mp hm).elim (hx x) (fun w => ht x (List.mem_of_mem_take w))
      have hI2 : cvI (xs ++ tp.take (j + 1)) s := by
        obtain ⟨I1, I2⟩ := hI
        rw [lj] at I1
        exact ⟨by rw [lj1]; omega, I2⟩
      obtain ⟨z3, fc, a3, h3, s3, L3, F3⟩ := r_cover hV hnS hnV n hn hi (by rw [lj1]; omega) hok false 0 (by simp) 300 n s z2 fb (by rw [lj1]; omega) (by omega) hI2 h2 hv2 hL2
      have cov : fRef_cover n (bd 0) (nI i) 0 z2 = some z3 := by
        unfold fRef_cover
        rw [r_R h2 21 rfl, Option.bind_some, Option.bind_some, r_ld h2 (k := 21) (ty := .int) (by unfold aK; omega) rfl (by show _ < 12; omega), hL2.2.1, Option.bind_some, e3, nI_add]
        exact a3
      have hA : ∀ f ∈ rLs sI sO sL sN (sN 0 3), 4 ≤ f.length := fun f hf => (rLs_bd hV (Nat.le_refl _) f hf).1
      obtain ⟨z4, fd, a4, h4, s4, L4, F4⟩ := ih (j + 1) _ z3 fc (by omega) (by omega) (cv_inv hA hok 300 s hI2) h3 (hv2.keep (fun q hq => F3.1 q (Or.inl hq))) L3 (fun m hm => by rw [F3.1 17 (by omega), F12.1 17 (by omega)]; exact htp m hm)
      refine ⟨z4, fd, ?_, h4, by rw [s4, s3, s2, s1], ?_, (F12.tr F3).tr F4⟩
      · rw [if_neg (fun q => c0 ((nI_leI (by omega) (by omega)).mp q)), r_R h 20 rfl, Option.bind_some, r_R h 21 rfl, Option.bind_some, Option.bind_some, r_ld h (k := 21) (ty := .int) (by unfold aK; omega) rfl (by show _ < 12; omega), l2, Option.bind_some, r_R h 17 rfl, Option.bind_some, Option.bind_some, r_ld h (k := 17) (ty := .int) (by unfold aK; omega) rfl (by show _ < 300; omega), ← Option.some.inj hx2, Option.bind_some, Option.bind_some, e3, nI_add, a1, Option.bind_some, r_R h1 21 rfl, Option.bind_some, Option.bind_some, r_ld h1 (k := 21) (ty := .int) (by unfold aK; omega) rfl (by show _ < 12; omega), ru_t _ _ (by omega), l2, Option.bind_some, nI_1, a2, Option.bind_some, r_is h2, Option.bind_some, cov, Option.bind_some, nI_1, a4]
      · rw [if_pos hj]
        by_cases c1 : j + 1 < tp.length
        · rw [if_pos c1] at L4
          have ea : xs ++ tp = xs ++ tp.take (j + 1) ++ tp.drop (j + 1) := by rw [List.append_assoc, List.take_append_drop]
          have := cv_app (rLs sI sO sL sN (sN 0 3)) (xs ++ tp.take (j + 1)) (tp.drop (j + 1)) 300 300 s hI2.1 (by rw [← ea, List.length_append]; omega)
          rw [← ea] at this
          rw [this]
          exact L4
        · rw [if_neg c1] at L4
          rw [List.take_of_length_le (by omega)] at L4
          exact L4
end LU
