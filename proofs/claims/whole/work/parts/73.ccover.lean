/-! THE CLASS covers a step's log -/
theorem ru_id {α : Type} (f : Nat → Nat → α) (t i : Nat) : ru f t i (f t i) = f := by
  funext t' i'
  unfold ru
  by_cases q : t' = t ∧ i' = i
  · rw [if_pos q, q.1, q.2]
  · rw [if_neg q]
theorem ru_ru {α : Type} (f : Nat → Nat → α) (t i : Nat) (x y : α) : ru (ru f t i x) t i y = ru f t i y := by
  funext t' i'
  unfold ru
  by_cases q : t' = t ∧ i' = i
  · rw [if_pos q, if_pos q]
  · rw [if_neg q, if_neg q, if_neg q]
theorem ru_sw {α : Type} (f : Nat → Nat → α) (i : Nat) (x y x' y' : α) : ru (ru (ru (ru f 1 i x) 2 i y) 1 i x') 2 i y' = ru (ru f 1 i x') 2 i y' := by
  funext t' i'
  unfold ru
  by_cases q1 : t' = 1 ∧ i' = i
  · simp [q1]
  · by_cases q2 : t' = 2 ∧ i' = i
    · simp [q2]
    · simp [q1, q2]
section CV
variable {z z1 : gS} {ad : Nat → Nat → Nat} {ce ce1 : Nat → Nat → gE} {sI : Nat → Nat → Int32} {sO : Nat → Nat → Option Nat} {sL : Nat → Nat → List Int32} {sN : Nat → Nat → Nat} {au : List (Int32 × Int32 × Int32)} {es : List (Nat × Nat × Nat × Nat)} {i : Nat}
theorem C1.stepU (h : C1 z ad ce sI sO sL sN au) (hi : i < sN 0 1) {xs tl : List Int32} {d c : Nat} {b : Int32} (hr : rh z1 ad ce1 (cnC sN)) (hk : ∀ t i', ¬ (16 ≤ t ∧ t ≤ 20 ∧ i' = i) → ce1 t i' = ce t i') (hl : ce1 16 i = .inr (3, [.ref (ad 17 i), .ref (ad 19 i), .int (nI d), .int (nI c), .int b])) (hx : rtx ad ce1 17 i 300 xs) (ht : rtx ad ce1 19 i 300 tl) : C1 z1 ad ce1 (ru sI 5 i b) sO (ru (ru sL 1 i xs) 2 i tl) (ru (ru sN 1 i d) 2 i c) au := by
  obtain ⟨h1, h2, h3, h4, h5, h6, h7, h8, h9⟩ := h
  have sN0 : ∀ j, ru (ru sN 1 i d) 2 i c 0 j = sN 0 j := fun j => by rw [ru_t _ _ (by omega), ru_t _ _ (by omega)]
  have sNt : ∀ t j, (t ≠ 1 ∧ t ≠ 2 ∨ j ≠ i) → ru (ru sN 1 i d) 2 i c t j = sN t j := fun t j q => by rw [ru_n _ _ (by omega), ru_n _ _ (by omega)]
  have sLt : ∀ t j, (t ≠ 1 ∧ t ≠ 2 ∨ j ≠ i) → ru (ru sL 1 i xs) 2 i tl t j = sL t j := fun t j q => by rw [ru_n _ _ (by omega), ru_n _ _ (by omega)]
  have sIt : ∀ t j, (t ≠ 5 ∨ j ≠ i) → ru sI 5 i b t j = sI t j := fun t j q => ru_n _ _ (by omega)
  have cm : cM ad (ru sI 5 i b) (ru (ru sN 1 i d) 2 i c) = cM ad sI sN := by
    unfold cM
    rw [sN0, sN0, sN0, sN0, sIt 7 0 (by omega), sIt 8 0 (by omega), sIt 8 1 (by omega), sIt 8 2 (by omega)]
  refine ⟨hr.cn (fun t => by unfold cnC; rw [sN0, sN0, sN0, sN0]), by rw [cm]; exact (hk 0 0 (by omega)).trans h2, h3.cg (sN0 0) (hk _ _ (by omega)) (fun j _ => hk _ _ (by omega)) (fun _ _ => rfl) (fun j _ => ?_), h4.cg (sN0 3) (fun t v _ _ _ => ⟨hk _ _ (by omega), rfl⟩) (fun v _ => sLt 0 v (by omega)), ?_, h6.cg (sN0 2) (hk _ _ (by omega)) (fun j _ => ⟨hk _ _ (by omega), rfl⟩) (fun j _ => ⟨sNt 3 j (by omega), by rw [sNt 4 j (by omega)], sIt 6 j (by omega)⟩), h7.cg (hk _ _ (by omega)) (hk _ _ (by omega)) rfl, by rw [sLt 3 0 (by omega)]; exact h8.keep rfl (hk _ _ (by omega)) (hk _ _ (by omega)), h9.cg (fun t _ _ => ⟨hk _ _ (by omega), rfl⟩)⟩
  · unfold cS
    rw [sIt 0 j (by omega), sIt 1 j (by omega), sIt 2 j (by omega), sIt 3 j (by omega), sIt 4 j (by omega)]
  · obtain ⟨g1, ⟨g, g2, g3⟩, g4⟩ := h5
    refine ⟨by rw [sN0]; exact g1, ⟨g, (hk _ _ (by omega)).trans g2, fun j hj => g3 j (by rw [sN0] at hj; exact hj)⟩, fun j hj => ?_⟩
    rw [sN0] at hj
    obtain ⟨a1, ⟨ga, a2, a3⟩, a4, a5, a6⟩ := g4 j hj
    rw [hk 14 j (by omega), hk 15 j (by omega)]
    refine ⟨a1, ⟨ga, a2, a3⟩, ?_⟩
    by_cases q : j = i
    · subst q
      refine ⟨?_, ?_, ?_⟩
      · rw [hl, ru_s, ru_s, ru_t _ _ (by omega), ru_s]
      · rw [ru_t _ _ (by omega), ru_s]; exact hx
      · rw [ru_s]; exact ht
    · rw [hk 16 j (by omega), sNt 1 j (by omega), sNt 2 j (by omega), sIt 5 j (by omega), sLt 1 j (by omega), sLt 2 j (by omega)]
      exact ⟨a4, a5.keep rfl (hk 17 j (by omega)) (hk 18 j (by omega)), a6.keep rfl (hk 19 j (by omega)) (hk 20 j (by omega))⟩
/-- the state with step i's log open: closed, what came, done, told, covered -/
def LG (z : gS) (ad : Nat → Nat → Nat) (ce : Nat → Nat → gE) (sI : Nat → Nat → Int32) (sO : Nat → Nat → Option Nat) (sL : Nat → Nat → List Int32) (sN : Nat → Nat → Nat) (au : List (Int32 × Int32 × Int32)) (i : Nat) (b : Int32) (xs : List Int32) (s : Nat × List Int32 × Nat) : Prop := C1 z ad ce (ru sI 5 i b) sO (ru (ru sL 1 i xs) 2 i s.2.1) (ru (ru sN 1 i s.1) 2 i s.2.2) au
theorem lg_of (h : C1 z ad ce sI sO sL sN au) (i : Nat) : LG z ad ce sI sO sL sN au i (sI 5 i) (sL 1 i) (sN 1 i, sL 2 i, sN 2 i) := by
  unfold LG
  simp only
  rw [ru_id, ru_id, ru_id, ru_id, ru_id]
  exact h
variable {b : Int32} {xs : List Int32} {s : Nat × List Int32 × Nat}
theorem lg_n (sN : Nat → Nat → Nat) (i d c j : Nat) : ru (ru sN 1 i d) 2 i c 0 j = sN 0 j := by rw [ru_t _ _ (by omega), ru_t _ _ (by omega)]
theorem LG.log (h : LG z ad ce sI sO sL sN au i b xs s) (hi : i < sN 0 1) : z.1 (ad 16 i) = some (.inr (3, [.ref (ad 17 i), .ref (ad 19 i), .int (nI s.1), .int (nI s.2.2), .int b])) := by
  have := C1.log h (s := i) (by rw [lg_n]; exact hi)
  rw [ru_s, ru_s, ru_t _ _ (by omega), ru_s] at this
  exact this
theorem LG.came (h : LG z ad ce sI sO sL sN au i b xs s) (hi : i < sN 0 1) : tx z (ad 17 i) (ad 18 i) 300 xs := by
  have := C1.came h (s := i) (by rw [lg_n]; exact hi)
  rw [ru_t _ _ (by omega), ru_s] at this
  exact this
theorem LG.told (h : LG z ad ce sI sO sL sN au i b xs s) (hi : i < sN 0 1) : tx z (ad 19 i) (ad 20 i) 300 s.2.1 := by
  have := C1.told h (s := i) (by rw [lg_n]; exact hi)
  rw [ru_s] at this
  exact this
theorem LG.upd (h : LG z ad ce sI sO sL sN au i b xs s) (hi : i < sN 0 1) {b' : Int32} {xs' : List Int32} {s' : Nat × List Int32 × Nat} (hz : z1.2 = z.2) (hl : z1.1 (ad 16 i) = some (.inr (3, [.ref (ad 17 i), .ref (ad 19 i), .int (nI s'.1), .int (nI s'.2.2), .int b']))) (hx : tx z1 (ad 17 i) (ad 18 i) 300 xs') (ht : tx z1 (ad 19 i) (ad 20 i) 300 s'.2.1) (ho : ∀ q, q ≠ ad 16 i → q ≠ ad 17 i → q ≠ ad 18 i → q ≠ ad 19 i → q ≠ ad 20 i → z1.1 q = z.1 q) : ∃ ce1, LG z1 ad ce1 sI sO sL sN au i b' xs' s' := by
  have h1 := h.1
  have hcn : ∀ t, 16 ≤ t → t ≤ 20 → i < cnC (ru (ru sN 1 i s.1) 2 i s.2.2) t := fun t a1 a2 => by
    unfold cnC
    rw [if_neg (by omega), if_neg (by omega), if_pos (by omega), lg_n]
    exact hi
  obtain ⟨x1, x2, x3, f, x4, x5⟩ := hx
  obtain ⟨y1, y2, y3, g, y4, y5⟩ := ht
  let nc : Nat → gE := fun t => if t = 16 then .inr (3, [.ref (ad 17 i), .ref (ad 19 i), .int (nI s'.1), .int (nI s'.2.2), .int b']) else if t = 17 then .inr (0, [.ref (ad 18 i), .int (nI xs'.length)]) else if t = 18 then .inl (.char, 300, .inl f) else if t = 19 then .inr (0, [.ref (ad 20 i), .int (nI s'.2.1.length)]) else .inl (.char, 300, .inl g)
  let ce1 : Nat → Nat → gE := fun t j => if 16 ≤ t ∧ t ≤ 20 ∧ j = i then nc t else ce t j
  have hk : ∀ t j, ¬ (16 ≤ t ∧ t ≤ 20 ∧ j = i) → ce1 t j = ce t j := fun t j q => if_neg q
  have hp : ∀ t, 16 ≤ t → t ≤ 20 → ce1 t i = nc t := fun t a1 a2 => if_pos ⟨a1, a2, rfl⟩
  have hr : rh z1 ad ce1 (cnC (ru (ru sN 1 i s.1) 2 i s.2.2)) := by
    refine ⟨fun t j hj => ?_, fun t j hj => by rw [hz]; exact h1.2.1 t j hj, h1.2.2⟩
    by_cases q : 16 ≤ t ∧ t ≤ 20 ∧ j = i
    · obtain ⟨q1, q2, rfl⟩ := q
      rw [hp t q1 q2]
      have : t = 16 ∨ t = 17 ∨ t = 18 ∨ t = 19 ∨ t = 20 := by omega
      rcases this with rfl | rfl | rfl | rfl | rfl
      · exact hl
      · exact x1
      · exact x4
      · exact y1
      · exact y4
    · rw [hk t j q, ho _ (h1.ne hj (hcn 16 (by omega) (by omega)) (by omega)) (h1.ne hj (hcn 17 (by omega) (by omega)) (by omega)) (h1.ne hj (hcn 18 (by omega) (by omega)) (by omega)) (h1.ne hj (hcn 19 (by omega) (by omega)) (by omega)) (h1.ne hj (hcn 20 (by omega) (by omega)) (by omega))]
      exact h1.1 t j hj
  have := C1.stepU h (i := i) (z1 := z1) (ce1 := ce1) (xs := xs') (tl := s'.2.1) (d := s'.1) (c := s'.2.2) (b := b') (by rw [lg_n]; exact hi) hr hk (hp 16 (by omega) (by omega)) ⟨hp 17 (by omega) (by omega), x2, x3, f, hp 18 (by omega) (by omega), x5⟩ ⟨hp 19 (by omega) (by omega), y2, y3, g, hp 20 (by omega) (by omega), y5⟩
  rw [ru_ru, ru_sw, ru_sw] at this
  exact ⟨ce1, this⟩
theorem LG.ne (h : LG z ad ce sI sO sL sN au i b xs s) (hi : i < sN 0 1) {t t' : Nat} (a1 : 16 ≤ t) (a2 : t ≤ 20) (b1 : 16 ≤ t') (b2 : t' ≤ 20) (c : t ≠ t') : ad t i ≠ ad t' i := h.1.ne (by unfold cnC; rw [if_neg (by omega), if_neg (by omega), if_pos (by omega), lg_n]; exact hi) (by unfold cnC; rw [if_neg (by omega), if_neg (by omega), if_pos (by omega), lg_n]; exact hi) (by omega)
theorem LG.ne0 (h : LG z ad ce sI sO sL sN au i b xs s) (hi : i < sN 0 1) {t t' : Nat} (a1 : 16 ≤ t) (a2 : t ≤ 20) (b2 : t' < 13) : ad t' 0 ≠ ad t i := h.1.ne (by unfold cnC; rw [if_pos b2]; omega) (by unfold cnC; rw [if_neg (by omega), if_neg (by omega), if_pos (by omega), lg_n]; exact hi) (by omega)
/-- something is told -/
theorem lg_tell (h : LG z ad ce sI sO sL sN au i b xs s) (hi : i < sN 0 1) (hF : FR z ad es) (n : Nat) {x : Int32} (hx : cOK x) (hl : s.2.1.length < 300) : ∃ (z1 : gS) (ce1 : Nat → Nat → gE), fText_add n (ad 19 i) x z = some (1, z1) ∧ LG z1 ad ce1 sI sO sL sN au i b xs (s.1, s.2.1 ++ [x], s.2.2) ∧ FR z1 ad es ∧ z1.2 = z.2 := by
  obtain ⟨z1, e1, t1, s1, o1⟩ := tx_add1 (h.told hi) hl n x
  rw [tC_ok hx] at t1
  obtain ⟨ce1, h1⟩ := h.upd hi (z1 := z1) (b' := b) (xs' := xs) (s' := (s.1, s.2.1 ++ [x], s.2.2)) s1 ((o1 _ (h.ne hi (by omega) (by omega) (by omega) (by omega) (by omega)) (h.ne hi (by omega) (by omega) (by omega) (by omega) (by omega))).trans (h.log hi)) ((h.came hi).keep (o1 _ (h.ne hi (by omega) (by omega) (by omega) (by omega) (by omega)) (h.ne hi (by omega) (by omega) (by omega) (by omega) (by omega))) (o1 _ (h.ne hi (by omega) (by omega) (by omega) (by omega) (by omega)) (h.ne hi (by omega) (by omega) (by omega) (by omega) (by omega)))) t1 (fun q _ _ _ q3 q4 => o1 q q3 q4)
  exact ⟨z1, ce1, e1, h1, hF.keep (fun t a1 a2 => o1 _ (h.ne0 hi (by omega) (by omega) (by omega)) (h.ne0 hi (by omega) (by omega) (by omega))), s1⟩
/-- the log's own cell is written -/
theorem lg_put (h : LG z ad ce sI sO sL sN au i b xs s) (hi : i < sN 0 1) (hF : FR z ad es) (d c : Nat) (b' : Int32) : ∃ ce1 : Nat → Nat → gE, LG (g_up z (ad 16 i) (.inr (3, [.ref (ad 17 i), .ref (ad 19 i), .int (nI d), .int (nI c), .int b']))) ad ce1 sI sO sL sN au i b' xs (d, s.2.1, c) ∧ FR (g_up z (ad 16 i) (.inr (3, [.ref (ad 17 i), .ref (ad 19 i), .int (nI d), .int (nI c), .int b']))) ad es := by
  have o1 : ∀ q, q ≠ ad 16 i → (g_up z (ad 16 i) (.inr (3, [.ref (ad 17 i), .ref (ad 19 i), .int (nI d), .int (nI c), .int b']))).1 q = z.1 q := fun q hq => q_un hq
  obtain ⟨ce1, h1⟩ := h.upd hi (b' := b') (xs' := xs) (s' := (d, s.2.1, c)) (z1 := g_up z (ad 16 i) (.inr (3, [.ref (ad 17 i), .ref (ad 19 i), .int (nI d), .int (nI c), .int b']))) rfl q_up ((h.came hi).keep (o1 _ (h.ne hi (by omega) (by omega) (by omega) (by omega) (by omega))) (o1 _ (h.ne hi (by omega) (by omega) (by omega) (by omega) (by omega)))) ((h.told hi).keep (o1 _ (h.ne hi (by omega) (by omega) (by omega) (by omega) (by omega))) (o1 _ (h.ne hi (by omega) (by omega) (by omega) (by omega) (by omega)))) (fun q q1 _ _ _ _ => o1 q q1)
  exact ⟨ce1, h1, hF.keep (fun t a1 a2 => o1 _ (h.ne0 hi (by omega) (by omega) (by omega)))⟩
theorem star_ok : cOK 42 := ⟨42, by omega, by omega, rfl⟩
theorem lg_stars (h : LG z ad ce sI sO sL sN au i b xs s) (hi : i < sN 0 1) (hF : FR z ad es) (n : Nat) (hn : 1000 < n) (hl : s.2.1.length + 3 ≤ 300) : ∃ (z1 : gS) (ce1 : Nat → Nat → gE), fLog_tellStars n (ad 16 i) z = some z1 ∧ LG z1 ad ce1 sI sO sL sN au i b xs (s.1, s.2.1 ++ [42, 42, 42], s.2.2) ∧ FR z1 ad es ∧ z1.2 = z.2 := by
  obtain ⟨z1, ce1, e1, h1, F1, s1⟩ := lg_tell h hi hF n star_ok (by omega)
  obtain ⟨z2, ce2, e2, h2, F2, s2⟩ := lg_tell h1 hi F1 n star_ok (by simp; omega)
  obtain ⟨z3, ce3, e3, h3, F3, s3⟩ := lg_tell h2 hi F2 n star_ok (by simp; omega)
  refine ⟨z3, ce3, ?_, ?_, F3, by rw [s3, s2, s1]⟩
  · obtain ⟨m, rfl⟩ : ∃ m, n = m + 4 := ⟨n - 4, by omega⟩
    unfold fLog_tellStars
    rw [fLog_tellStars_L2, if_neg (by decide), q_fR (h.log hi) (k := 1) (r := some (ad 19 i)) rfl, Option.bind_some, Option.bind_some, q_is (h.told hi).1, Option.bind_some, q_bp e1]
    rw [fLog_tellStars_L2, if_neg (by decide), q_fR (h1.log hi) (k := 1) (r := some (ad 19 i)) rfl, Option.bind_some, Option.bind_some, q_is (h1.told hi).1, Option.bind_some, q_bp e2]
    rw [fLog_tellStars_L2, if_neg (by decide), q_fR (h2.log hi) (k := 1) (r := some (ad 19 i)) rfl, Option.bind_some, Option.bind_some, q_is (h2.told hi).1, Option.bind_some, q_bp e3]
    rw [fLog_tellStars_L2, if_pos (by decide)]
  · have : s.2.1 ++ [42] ++ [42] ++ [42] = s.2.1 ++ [(42 : Int32), 42, 42] := by simp
    rw [← this]
    exact h3
theorem lg_eT (sL : Nat → Nat → List Int32) (i : Nat) (xs tl : List Int32) (e : Nat × Nat × Nat × Nat) : eT (ru (ru sL 1 i xs) 2 i tl) e = eT sL e := by
  unfold eT
  rw [ru_t _ _ (by omega), ru_t _ _ (by omega)]
theorem lg_EO (hE : EO sL sN es) : EO (ru (ru sL 1 i xs) 2 i s.2.1) (ru (ru sN 1 i s.1) 2 i s.2.2) es := fun e he => by
  rw [lg_eT, lg_n]
  exact hE e he
theorem lg_map (es : List (Nat × Nat × Nat × Nat)) : es.map (eT (ru (ru sL 1 i xs) 2 i s.2.1)) = es.map (eT sL) := List.map_congr_left (fun e _ => lg_eT sL i xs s.2.1 e)
theorem c_J43 (h : LG z ad ce sI sO sL sN au i b xs s) (hi : i < sN 0 1) (hF : FR z ad es) (hE : EO sL sN es) (n : Nat) (hn : 1000 < n) (hxl : xs.length ≤ 300) (hx : ∀ x ∈ xs, cOK x) (hI : cvI xs s) (hd : s.1 < xs.length) (K : Nat → Nat → Int32 → Int32 → gS → Option gS) (li : Int32) (turn : Nat) : ∃ (z1 : gS) (ce1 : Nat → Nat → gE), fLog_cover_J43 n K (ad 16 i) (ad 8 0) li (nI turn) z = K (ad 16 i) (ad 8 0) li (nI (turn + 1)) z1 ∧ LG z1 ad ce1 sI sO sL sN au i b xs (cvS (es.map (eT sL)) xs s) ∧ FR z1 ad es ∧ z1.2 = z.2 := by
  have hl := h.log hi
  have hE' := lg_EO (i := i) (xs := xs) (s := s) hE
  have lw := fm_lw h hF hE' n hn (h.came hi) (d := s.1) (by omega)
  have len := lwi_len (ru (ru sL 1 i xs) 2 i s.2.1) (xs.drop s.1) es 0 none
  rw [lg_map] at len
  have get := lwi_get (ru (ru sL 1 i xs) 2 i s.2.1) (xs.drop s.1) es es.length 0 none (by omega) (fun _ _ q => by cases q)
  rw [List.drop_zero] at get
  have hA : ∀ f ∈ es.map (eT sL), 4 ≤ f.length := fun f hf => by
    obtain ⟨e, h1, rfl⟩ := List.mem_map.mp hf
    exact (hE e h1).2.2.1
  have hI' := cvS_inv hA hx hI hd
  obtain ⟨I1, I2, I3, I4⟩ := hI
  unfold fLog_cover_J43
  rw [q_fR hl (k := 0) (r := some (ad 17 i)) rfl, Option.bind_some, q_fI hl (k := 2) (x := nI s.1) rfl, Option.bind_some, Option.bind_some, hF.is, Option.bind_some, q_bp lw]
  cases eB : lwi (ru (ru sL 1 i xs) 2 i s.2.1) (xs.drop s.1) es 0 none with
  | none =>
    rw [eB] at len
    have m0 : mxf (xs.drop s.1) (es.map (eT sL)) 0 = 0 := len.symm
    have hx1 : xs[s.1]? = some xs[s.1] := List.getElem?_eq_getElem hd
    have at1 : fText_at n (ad 17 i) (nI s.1) z = some (xs[s.1], z) := by
      rw [tx_at (h.came hi) n, tAt_nI (by omega), hx1]
      rfl
    obtain ⟨z1, ce1, e1, h1, F1, s1⟩ := lg_tell h hi hF n (hx _ (List.getElem_mem hd)) (by omega)
    obtain ⟨ce2, h2, F2⟩ := lg_put h1 hi F1 (s.1 + 1) s.2.2 b
    refine ⟨_, ce2, ?_, ?_, F2, s1⟩
    · show (if (-1 : Int32) = -1 then _ else _) = _
      rw [if_pos rfl, q_fR hl (k := 1) (r := some (ad 19 i)) rfl, Option.bind_some, q_fR hl (k := 0) (r := some (ad 17 i)) rfl, Option.bind_some, q_fI hl (k := 2) (x := nI s.1) rfl, Option.bind_some, Option.bind_some, q_is (h.came hi).1, Option.bind_some, q_bp at1, Option.bind_some, q_is (h.told hi).1, Option.bind_some, q_bp e1, q_fI (h1.log hi) (k := 2) (x := nI s.1) rfl, Option.bind_some, q_pF (h1.log hi) (Nat.le_of_ble_eq_true rfl), Option.bind_some, nI_1, nI_1]
      rfl
    · have : cvS (es.map (eT sL)) xs s = (s.1 + 1, s.2.1 ++ [xs[s.1]], s.2.2) := by
        unfold cvS
        rw [if_pos m0, hx1]
        rfl
      rw [this]
      exact h2
  | some je =>
    obtain ⟨j, e⟩ := je
    rw [eB] at len
    have he := get j e eB
    obtain ⟨p1, p2, p3, p4⟩ := hE e (List.mem_of_getElem? he)
    have m0 : mxf (xs.drop s.1) (es.map (eT sL)) 0 = (eT sL e).length := by
      have : lwl (ru (ru sL 1 i xs) 2 i s.2.1) (some (j, e)) = (eT sL e).length := by
        show (eT (ru (ru sL 1 i xs) 2 i s.2.1) e).length = _
        rw [lg_eT]
      rw [← this, len]
      rfl
    have hj : j < es.length := by
      apply Classical.byContradiction
      intro q
      rw [List.getElem?_eq_none (by omega)] at he
      cases he
    have bl := hF.le
    have ecv : cvS (es.map (eT sL)) xs s = (s.1 + (eT sL e).length, s.2.1 ++ [42, 42, 42], s.2.2 + 1) := by
      unfold cvS
      rw [m0, if_neg (by omega)]
    rw [ecv] at hI' ⊢
    have q1 : s.1 + (eT sL e).length ≤ xs.length := hI'.1
    obtain ⟨z1, ce1, e1, h1, F1, s1⟩ := lg_stars h hi hF n hn (by omega)
    have hl1 := h1.log hi
    have hE1 := lg_EO (i := i) (xs := xs) (s := (s.1, s.2.1 ++ [42, 42, 42], s.2.2)) hE
    have lo := fm_lengthOf h1 F1 hE1 n he
    rw [lg_eT] at lo
    obtain ⟨ce2, h2, F2⟩ := lg_put h1 hi F1 (s.1 + (eT sL e).length) (s.2.2 + 1) b
    refine ⟨_, ce2, ?_, h2, F2, s1⟩
    rw [show lwo (some (j, e)) = nI j from rfl, if_neg (fun w => nI_pos (show j < 2 ^ 31 by omega) (by rw [w]; decide)), q_is hl, Option.bind_some, e1, Option.bind_some, q_fI hl1 (k := 2) (x := nI s.1) rfl, Option.bind_some, F1.is, Option.bind_some, q_bp lo, q_pF hl1 (Nat.le_of_ble_eq_true rfl), Option.bind_some, q_fI q_up (k := 3) (x := nI s.2.2) rfl, Option.bind_some, q_pF q_up (Nat.le_of_ble_eq_true rfl), Option.bind_some, q_uu, nI_add, nI_1, nI_1]
    rfl
theorem c_cover (hi : i < sN 0 1) (hE : EO sL sN es) (n : Nat) (hn : 1000 < n) (hxl : xs.length ≤ 300) (hx : ∀ x ∈ xs, cOK x) (last : Bool) (li : Int32) (hli : li = 0 ↔ last = false) : ∀ (m k turn : Nat) (s : Nat × List Int32 × Nat) (z : gS) (ce : Nat → Nat → gE), xs.length ≤ s.1 + m → m < k → turn ≤ s.1 → cvI xs s → LG z ad ce sI sO sL sN au i b xs s → FR z ad es → ∃ (z1 : gS) (ce1 : Nat → Nat → gE), fLog_cover_L2 n k (ad 16 i) (ad 8 0) li (nI turn) z = some z1 ∧ LG z1 ad ce1 sI sO sL sN au i b xs (cv (es.map (eT sL)) last xs m s) ∧ FR z1 ad es ∧ z1.2 = z.2 := by
  have stop : ∀ (k turn : Nat) (s : Nat × List Int32 × Nat) (z : gS) (ce : Nat → Nat → gE), xs.length ≤ s.1 → turn ≤ s.1 → cvI xs s → LG z ad ce sI sO sL sN au i b xs s → fLog_cover_L2 n (k + 1) (ad 16 i) (ad 8 0) li (nI turn) z = some z := by
    intro k turn s z ce q1 q2 q3 h
    have := q3.1
    rw [fLog_cover_L2]
    by_cases c : 300 ≤ turn
    · rw [if_pos (show 300 ≤ nI turn from (nI_leI (a := 300) (by omega) (by omega)).mpr c)]
    · rw [if_neg (show ¬ 300 ≤ nI turn from fun q => c ((nI_leI (a := 300) (by omega) (by omega)).mp q)), q_fI (h.log hi) (k := 2) (x := nI s.1) rfl, Option.bind_some, q_fR (h.log hi) (k := 0) (r := some (ad 17 i)) rfl, Option.bind_some, Option.bind_some, q_is (h.came hi).1, Option.bind_some, q_bp (tx_len (h.came hi) n), if_pos ((nI_leI (by omega) (by omega)).mpr q1)]
  intro m
  induction m with
  | zero =>
    intro k turn s z ce q1 q2 q3 hI h hF
    obtain ⟨k, rfl⟩ : ∃ k', k = k' + 1 := ⟨k - 1, by omega⟩
    exact ⟨z, ce, stop k turn s z ce (by omega) q3 hI h, h, hF, rfl⟩
  | succ m ih =>
    intro k turn s z ce q1 q2 q3 hI h hF
    obtain ⟨k, rfl⟩ : ∃ k', k = k' + 1 := ⟨k - 1, by omega⟩
    rw [cv]
    by_cases c0 : xs.length ≤ s.1
    · rw [if_pos c0]
      exact ⟨z, ce, stop k turn s z ce c0 q3 hI h, h, hF, rfl⟩
    · rw [if_neg c0]
      have hE' := lg_EO (i := i) (xs := xs) (s := s) hE
      have mc := fm_mc h hF hE' n hn (h.came hi) (d := s.1) (by omega)
      rw [lg_map] at mc
      have hgo : ∃ (z1 : gS) (ce1 : Nat → Nat → gE), fLog_cover_J43 n (fun a0b a1b i2b i3b z => fLog_cover_L2 n k a0b a1b i2b i3b z) (ad 16 i) (ad 8 0) li (nI turn) z = some z1 ∧ LG z1 ad ce1 sI sO sL sN au i b xs (cv (es.map (eT sL)) last xs m (cvS (es.map (eT sL)) xs s)) ∧ FR z1 ad es ∧ z1.2 = z.2 := by
        obtain ⟨z2, ce2, a2, h2, F2, s2⟩ := c_J43 h hi hF hE n hn hxl hx hI (by omega) (fun a0b a1b i2b i3b z => fLog_cover_L2 n k a0b a1b i2b i3b z) li turn
        have hA : ∀ f ∈ es.map (eT sL), 4 ≤ f.length := fun f hf => by
          obtain ⟨e, h1, rfl⟩ := List.mem_map.mp hf
          exact (hE e h1).2.2.1
        have g1 := cvS_gt (es.map (eT sL)) xs s
        obtain ⟨z3, ce3, a3, h3, F3, s3⟩ := ih k (turn + 1) (cvS (es.map (eT sL)) xs s) z2 ce2 (by omega) (by omega) (by omega) (cvS_inv hA hx hI (by omega)) h2 F2
        exact ⟨z3, ce3, by rw [a2]; exact a3, h3, F3, s3.trans s2⟩
      have beg : ∀ R, (if li = 0 then (g_fR z (ad 16 i) 3 0).bind fun r_10 => (g_fI z (ad 16 i) 3 2).bind fun v_11 => r_10.bind fun a_12 => (g_is z (ad 8 0) 7).bind fun _ => g_bp (fForms_mayCome n (ad 8 0) a_12 v_11 z) fun v_15 z_14 => if v_15 = 0 then fLog_cover_J43 n (fun a0b a1b i2b i3b z => fLog_cover_L2 n k a0b a1b i2b i3b z) (ad 16 i) (ad 8 0) li (nI turn) z_14 else some z_14 else fLog_cover_J43 n (fun a0b a1b i2b i3b z => fLog_cover_L2 n k a0b a1b i2b i3b z) (ad 16 i) (ad 8 0) li (nI turn) z) = R → fLog_cover_L2 n (k + 1) (ad 16 i) (ad 8 0) li (nI turn) z = R := by
        intro R q
        have hh := h.log hi
        have hc := h.came hi
        rw [fLog_cover_L2, if_neg (show ¬ 300 ≤ nI turn from fun q => absurd ((nI_leI (a := 300) (by omega) (by omega)).mp q) (by omega))]
        rw [show g_fI z (ad 16 i) 3 2 = some (nI s.1) from q_fI hh (k := 2) (x := nI s.1) rfl, show g_fR z (ad 16 i) 3 0 = some (some (ad 17 i)) from q_fR hh (k := 0) (r := some (ad 17 i)) rfl] at q
        rw [q_fI hh (k := 2) (x := nI s.1) rfl, Option.bind_some, q_fR hh (k := 0) (r := some (ad 17 i)) rfl, Option.bind_some, Option.bind_some, q_is hc.1, Option.bind_some, q_bp (tx_len hc n), if_neg (fun w => c0 ((nI_leI (by omega) (by omega)).mp w))]
        rw [show g_fI z (ad 16 i) 3 2 = some (nI s.1) from q_fI hh (k := 2) (x := nI s.1) rfl, show g_fR z (ad 16 i) 3 0 = some (some (ad 17 i)) from q_fR hh (k := 0) (r := some (ad 17 i)) rfl]
        exact q
      by_cases cl : last = false
      · have l0 : li = 0 := hli.mpr cl
        by_cases c1 : my (xs.drop s.1) (es.map (eT sL)) = true
        · rw [if_pos ⟨cl, c1⟩]
          rw [if_pos c1] at mc
          exact ⟨z, ce, beg _ (by rw [if_pos l0, q_fR (h.log hi) (k := 0) (r := some (ad 17 i)) rfl, Option.bind_some, q_fI (h.log hi) (k := 2) (x := nI s.1) rfl, Option.bind_some, Option.bind_some, hF.is, Option.bind_some, q_bp mc, if_neg (by decide)]), h, hF, rfl⟩
        · rw [if_neg (fun q => c1 q.2)]
          rw [if_neg c1] at mc
          obtain ⟨z1, ce1, a1, r⟩ := hgo
          exact ⟨z1, ce1, beg _ (by rw [if_pos l0, q_fR (h.log hi) (k := 0) (r := some (ad 17 i)) rfl, Option.bind_some, q_fI (h.log hi) (k := 2) (x := nI s.1) rfl, Option.bind_some, Option.bind_some, hF.is, Option.bind_some, q_bp mc, if_pos rfl]; exact a1), r⟩
      · rw [if_neg (fun q => cl q.1)]
        obtain ⟨z1, ce1, a1, r⟩ := hgo
        exact ⟨z1, ce1, beg _ (by rw [if_neg (fun q => cl (hli.mp q))]; exact a1), r⟩
end CV
