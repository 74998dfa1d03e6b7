/-! THE BEGINNING: both constructors -/
/-- an object at Y, p cells behind it, w below it -/
def IN (cc : Nat → gE) (w : Nat → Option gE) (ci : Nat) (z : gS) (Y : Nat) (fs : List Value) (p : Nat) : Prop := z.1 Y = some (.inr (ci, fs)) ∧ z.2 = Y + 1 + p ∧ (∀ q, 1 ≤ q → q ≤ p → z.1 (Y + q) = some (cc q)) ∧ ∀ b, b < Y → z.1 b = w b
section IN
variable {cc : Nat → gE} {w : Nat → Option gE} {ci Y p : Nat} {z : gS} {fs : List Value} {P : gS → Prop}
theorem in_I (h : IN cc w ci z Y fs p) {k n B : Nat} {ty : FieldType} {i : Int32} (hi : i = nI n) (hB : n ≤ B) (hB2 : B < 2 ^ 31) (hk : k < fs.length) (hc : cc (p + 1) = .inl (ty, n, .inl (fun _ => 0))) {K : gS → Option gS} (next : ∀ z1, IN cc w ci z1 Y (fs.set k (.ref (Y + 1 + p))) (p + 1) → ∃ z2, K z1 = some z2 ∧ P z2) : ∃ z2, (g_bp (g_nwI z ty i B) fun a1 z2 => (g_pF z2 Y ci k (.ref a1)).bind K) = some z2 ∧ P z2 := by
  obtain ⟨h1, h2, h3, h4⟩ := h
  have g0 : (g_nw z (.inl (ty, n, .inl (fun _ => 0)))).1 Y = some (.inr (ci, fs)) := by rw [q_nn (by omega)]; exact h1
  rw [hi, q_bp (q_nI hB hB2), q_pF g0 hk, Option.bind_some]
  refine next _ ⟨by rw [q_up, h2], by rw [q_u2, q_n2, h2]; omega, fun q a b => ?_, fun b hb => ?_⟩
  · rw [q_un (by omega)]
    by_cases e : q = p + 1
    · subst e
      rw [show Y + (p + 1) = z.2 by omega, q_nw, hc]
    · rw [q_nn (by omega)]
      exact h3 q a (by omega)
  · rw [q_un (by omega), q_nn (by omega)]
    exact h4 b hb
theorem in_R (h : IN cc w ci z Y fs p) {k n B : Nat} {ty : FieldType} {i : Int32} (hi : i = nI n) (hB : n ≤ B) (hB2 : B < 2 ^ 31) (hk : k < fs.length) (hc : cc (p + 1) = .inl (ty, n, .inr (.inr (.inr (.inr (fun _ => none)))))) {K : gS → Option gS} (next : ∀ z1, IN cc w ci z1 Y (fs.set k (.ref (Y + 1 + p))) (p + 1) → ∃ z2, K z1 = some z2 ∧ P z2) : ∃ z2, (g_bp (g_nwR z ty i B) fun a1 z2 => (g_pF z2 Y ci k (.ref a1)).bind K) = some z2 ∧ P z2 := by
  obtain ⟨h1, h2, h3, h4⟩ := h
  have g0 : (g_nw z (.inl (ty, n, .inr (.inr (.inr (.inr (fun _ => none))))))).1 Y = some (.inr (ci, fs)) := by rw [q_nn (by omega)]; exact h1
  rw [hi, q_bp (q_nR hB hB2), q_pF g0 hk, Option.bind_some]
  refine next _ ⟨by rw [q_up, h2], by rw [q_u2, q_n2, h2]; omega, fun q a b => ?_, fun b hb => ?_⟩
  · rw [q_un (by omega)]
    by_cases e : q = p + 1
    · subst e
      rw [show Y + (p + 1) = z.2 by omega, q_nw, hc]
    · rw [q_nn (by omega)]
      exact h3 q a (by omega)
  · rw [q_un (by omega), q_nn (by omega)]
    exact h4 b hb
/-- an object that makes its own cells: m of them with itself -/
theorem in_O (h : IN cc w ci z Y fs p) {k m cj : Nat} {os : List Value} {ini : Nat → gS → Option gS} (hk : k < fs.length) (hm : ∃ z1 : gS, ini z.2 (g_nw z (.inr (cj, os))) = some z1 ∧ z1.2 = z.2 + m ∧ (∀ b, b < z.2 → z1.1 b = z.1 b) ∧ ∀ q, q < m → z1.1 (z.2 + q) = some (cc (p + 1 + q))) {K : gS → Option gS} (next : ∀ z1, IN cc w ci z1 Y (fs.set k (.ref (Y + 1 + p))) (p + m) → ∃ z2, K z1 = some z2 ∧ P z2) : ∃ z2, (g_bp (g_nwO z cj os) fun a1 z2 => (ini a1 z2).bind fun z3 => (g_pF z3 Y ci k (.ref a1)).bind K) = some z2 ∧ P z2 := by
  obtain ⟨h1, h2, h3, h4⟩ := h
  obtain ⟨z1, e1, s1, o1, n1⟩ := hm
  have g0 : z1.1 Y = some (.inr (ci, fs)) := by rw [o1 _ (by omega)]; exact h1
  have e0 : g_nwO z cj os = some (z.2, g_nw z (.inr (cj, os))) := rfl
  rw [q_bp e0, e1, Option.bind_some, q_pF g0 hk, Option.bind_some]
  refine next _ ⟨by rw [q_up, h2], by rw [q_u2, s1, h2]; omega, fun q a b => ?_, fun b hb => ?_⟩
  · rw [q_un (by omega)]
    by_cases e : q ≤ p
    · rw [o1 _ (by omega)]
      exact h3 q a e
    · obtain ⟨d, rfl⟩ : ∃ d, q = p + 1 + d := ⟨q - (p + 1), by omega⟩
      rw [show Y + (p + 1 + d) = z.2 + d by omega]
      exact n1 d (by omega)
  · rw [q_un (by omega), o1 _ (by omega)]
    exact h4 b hb
theorem in_P (h : IN cc w ci z Y fs p) {k : Nat} {x : Value} (hk : k < fs.length) {K : gS → Option gS} (next : ∀ z1, IN cc w ci z1 Y (fs.set k x) p → ∃ z2, K z1 = some z2 ∧ P z2) : ∃ z2, (g_pF z Y ci k x).bind K = some z2 ∧ P z2 := by
  obtain ⟨h1, h2, h3, h4⟩ := h
  rw [q_pF h1 hk, Option.bind_some]
  refine next _ ⟨q_up, h2, fun q a b => ?_, fun b hb => ?_⟩
  · rw [q_un (by omega)]
    exact h3 q a b
  · rw [q_un (by omega)]
    exact h4 b hb
end IN
theorem in_0 (cc : Nat → gE) (z : gS) (ci : Nat) (fs : List Value) : IN cc z.1 ci (g_nw z (.inr (ci, fs))) z.2 fs 0 := ⟨q_nw, by rw [q_n2], fun q a b => by omega, fun b hb => q_nn hb⟩
/-- one object with one row -/
def c1 (ty : FieldType) (n : Nat) (_ : Nat) : gE := .inl (ty, n, .inl (fun _ => 0))
theorem au_make (z : gS) (n : Nat) : ∃ z1 : gS, fAudit_init n z.2 (g_nw z (.inr (6, [.null, .int 0]))) = some z1 ∧ IN (c1 .int 600) z.1 6 z1 z.2 [.ref (z.2 + 1), .int 0] 1 := by
  unfold fAudit_init
  refine in_I (in_0 (c1 .int 600) z 6 _) (n := 600) rfl (by omega) (by omega) (by simp) rfl (fun z1 h1 => ?_)
  exact ⟨z1, rfl, h1⟩
theorem tx0_make (z : gS) (n : Nat) : ∃ z1 : gS, fText_init n z.2 300 (g_nw z (.inr (0, [.null, .int 0]))) = some z1 ∧ IN (c1 .char 300) z.1 0 z1 z.2 [.ref (z.2 + 1), .int 0] 1 := by
  unfold fText_init
  refine in_I (in_0 (c1 .char 300) z 0 _) (n := 300) (by decide) (by omega) (by omega) (by simp) rfl (fun z1 h1 => ?_)
  exact ⟨z1, rfl, h1⟩
def cF (q : Nat) : gE := if q = 1 then aR "SecretRows$Text" 60 (fun _ => none) else .inl (.int, 60, .inl (fun _ => 0))
theorem fo_make (z : gS) (n : Nat) : ∃ z1 : gS, fForms_init n z.2 (g_nw z (.inr (7, [.null, .null, .null, .null, .int 0]))) = some z1 ∧ IN cF z.1 7 z1 z.2 [.ref (z.2 + 1), .ref (z.2 + 2), .ref (z.2 + 3), .ref (z.2 + 4), .int 0] 4 := by
  unfold fForms_init
  refine in_R (in_0 cF z 7 _) (n := 60) rfl (by omega) (by omega) (by simp) rfl (fun z1 h1 => ?_)
  refine in_I h1 (n := 60) rfl (by omega) (by omega) (by simp) rfl (fun z2 h2 => ?_)
  refine in_I h2 (n := 60) rfl (by omega) (by omega) (by simp) rfl (fun z3 h3 => ?_)
  refine in_I h3 (n := 60) rfl (by omega) (by omega) (by simp) rfl (fun z4 h4 => ?_)
  exact ⟨z4, rfl, h4⟩
/-- the class's cells behind its object -/
def cI (S q : Nat) : gE := if q = 1 then aR "SecretRows$Secret" 10 (fun _ => none) else if q = 2 then aR "SecretRows$Step" 12 (fun _ => none) else if q = 3 then aR "SecretRows$Token" 20 (fun _ => none) else if q = 4 then .inr (6, [.ref (S + 5), .int 0]) else if q = 5 then .inl (.int, 600, .inl (fun _ => 0)) else if q = 6 then .inr (0, [.ref (S + 7), .int 0]) else if q = 7 then .inl (.char, 300, .inl (fun _ => 0)) else if q = 8 then .inr (7, [.ref (S + 9), .ref (S + 10), .ref (S + 11), .ref (S + 12), .int 0]) else if q = 9 then aR "SecretRows$Text" 60 (fun _ => none) else .inl (.int, 60, .inl (fun _ => 0))
theorem main_make (G : Nat → Option gE) (S n : Nat) : ∃ z1 : gS, fMain_init n S (g_nw (G, S) (.inr (8, [.null, .null, .null, .null, .null, .null, .int 0, .int 0, .int 0, .int 0, .int 0, .int 0, .int 0, .int 0]))) = some z1 ∧ IN (cI S) G 8 z1 S [.ref (S + 1), .ref (S + 2), .ref (S + 3), .ref (S + 4), .ref (S + 6), .ref (S + 8), .int 0, .int 0, .int 0, .int 0, .int 0, .int (-1), .int (-1), .int (-1)] 12 := by
  unfold fMain_init
  refine in_R (in_0 (cI S) (G, S) 8 _) (n := 10) rfl (by omega) (by omega) (by simp) rfl (fun z1 h1 => ?_)
  refine in_R h1 (n := 12) rfl (by omega) (by omega) (by simp) rfl (fun z2 h2 => ?_)
  refine in_R h2 (n := 20) rfl (by omega) (by omega) (by simp) rfl (fun z3 h3 => ?_)
  refine in_O h3 (m := 2) (ini := fun a z => fAudit_init n a z) (by simp) ?_ (fun z4 h4 => ?_)
  · obtain ⟨y, e, i1, i2, i3, i4⟩ := au_make z3 n
    have hz : z3.2 = S + 4 := h3.2.1
    refine ⟨y, e, i2, i4, fun q hq => ?_⟩
    have : q = 0 ∨ q = 1 := by omega
    rcases this with rfl | rfl
    · exact i1.trans (by rw [hz]; rfl)
    · exact i3 1 (by omega) (by omega)
  refine in_O h4 (m := 2) (ini := fun a z => fText_init n a 300 z) (by simp) ?_ (fun z5 h5 => ?_)
  · obtain ⟨y, e, i1, i2, i3, i4⟩ := tx0_make z4 n
    have hz : z4.2 = S + 6 := h4.2.1
    refine ⟨y, e, i2, i4, fun q hq => ?_⟩
    have : q = 0 ∨ q = 1 := by omega
    rcases this with rfl | rfl
    · exact i1.trans (by rw [hz]; rfl)
    · exact i3 1 (by omega) (by omega)
  refine in_O h5 (m := 5) (ini := fun a z => fForms_init n a z) (by simp) ?_ (fun z6 h6 => ?_)
  · obtain ⟨y, e, i1, i2, i3, i4⟩ := fo_make z5 n
    have hz : z5.2 = S + 8 := h5.2.1
    refine ⟨y, e, i2, i4, fun q hq => ?_⟩
    have : q = 0 ∨ q = 1 ∨ q = 2 ∨ q = 3 ∨ q = 4 := by omega
    rcases this with rfl | rfl | rfl | rfl | rfl
    · exact i1.trans (by rw [hz]; rfl)
    · exact i3 1 (by omega) (by omega)
    · exact i3 2 (by omega) (by omega)
    · exact i3 3 (by omega) (by omega)
    · exact i3 4 (by omega) (by omega)
  refine in_P h6 (by simp) (fun z7 h7 => ?_)
  refine in_P h7 (by simp) (fun z8 h8 => ?_)
  refine in_P h8 (by simp) (fun z9 h9 => ?_)
  exact ⟨z9, rfl, h9⟩
/-- the reference's rows -/
def kq (q : Nat) : Nat := if q ≤ 11 then q + 6 else q + 7
def cR (q : Nat) : gE := .inl (aT (kq q), aN (kq q), .inl (fun _ => 0))
theorem ref_make (G : Nat → Option gE) (Y n : Nat) : ∃ z1 : gS, fRef_init n Y (g_nw (G, Y) (.inr (9, [.int 0, .int 0, .int 0, .int 0, .int 0, .int 0, .int 0, .null, .null, .null, .null, .null, .null, .null, .null, .null, .null, .null, .int 0, .null, .null, .null, .null, .null, .null, .null, .null, .null, .null, .null, .null, .null, .null, .int 0, .int 0, .int 0]))) = some z1 ∧ IN cR G 9 z1 Y [.int 0, .int 0, .int 0, .int 0, .int 0, .int 0, .int 0, .ref (Y + 1), .ref (Y + 2), .ref (Y + 3), .ref (Y + 4), .ref (Y + 5), .ref (Y + 6), .ref (Y + 7), .ref (Y + 8), .ref (Y + 9), .ref (Y + 10), .ref (Y + 11), .int 0, .ref (Y + 12), .ref (Y + 13), .ref (Y + 14), .ref (Y + 15), .ref (Y + 16), .ref (Y + 17), .ref (Y + 18), .ref (Y + 19), .ref (Y + 20), .ref (Y + 21), .ref (Y + 22), .ref (Y + 23), .ref (Y + 24), .ref (Y + 25), .int (-1), .int 0, .int 0] 25 := by
  unfold fRef_init
  refine in_I (in_0 cR (G, Y) 9 _) (n := 24) rfl (by omega) (by omega) (Nat.le_of_ble_eq_true rfl) rfl (fun z1 (h1 : IN cR G 9 z1 Y [Value.int 0, Value.int 0, Value.int 0, Value.int 0, Value.int 0, Value.int 0, Value.int 0, Value.ref (Y + 1), Value.null, Value.null, Value.null, Value.null, Value.null, Value.null, Value.null, Value.null, Value.null, Value.null, Value.int 0, Value.null, Value.null, Value.null, Value.null, Value.null, Value.null, Value.null, Value.null, Value.null, Value.null, Value.null, Value.null, Value.null, Value.null, Value.int 0, Value.int 0, Value.int 0] 1) => ?_)
  refine in_I h1 (n := 24) rfl (by omega) (by omega) (Nat.le_of_ble_eq_true rfl) rfl (fun z2 (h2 : IN cR G 9 z2 Y [Value.int 0, Value.int 0, Value.int 0, Value.int 0, Value.int 0, Value.int 0, Value.int 0, Value.ref (Y + 1), Value.ref (Y + 2), Value.null, Value.null, Value.null, Value.null, Value.null, Value.null, Value.null, Value.null, Value.null, Value.int 0, Value.null, Value.null, Value.null, Value.null, Value.null, Value.null, Value.null, Value.null, Value.null, Value.null, Value.null, Value.null, Value.null, Value.null, Value.int 0, Value.int 0, Value.int 0] 2) => ?_)
  refine in_I h2 (n := 288) rfl (by omega) (by omega) (Nat.le_of_ble_eq_true rfl) rfl (fun z3 (h3 : IN cR G 9 z3 Y [Value.int 0, Value.int 0, Value.int 0, Value.int 0, Value.int 0, Value.int 0, Value.int 0, Value.ref (Y + 1), Value.ref (Y + 2), Value.ref (Y + 3), Value.null, Value.null, Value.null, Value.null, Value.null, Value.null, Value.null, Value.null, Value.int 0, Value.null, Value.null, Value.null, Value.null, Value.null, Value.null, Value.null, Value.null, Value.null, Value.null, Value.null, Value.null, Value.null, Value.null, Value.int 0, Value.int 0, Value.int 0] 3) => ?_)
  refine in_I h3 (n := 10) rfl (by omega) (by omega) (Nat.le_of_ble_eq_true rfl) rfl (fun z4 (h4 : IN cR G 9 z4 Y [Value.int 0, Value.int 0, Value.int 0, Value.int 0, Value.int 0, Value.int 0, Value.int 0, Value.ref (Y + 1), Value.ref (Y + 2), Value.ref (Y + 3), Value.ref (Y + 4), Value.null, Value.null, Value.null, Value.null, Value.null, Value.null, Value.null, Value.int 0, Value.null, Value.null, Value.null, Value.null, Value.null, Value.null, Value.null, Value.null, Value.null, Value.null, Value.null, Value.null, Value.null, Value.null, Value.int 0, Value.int 0, Value.int 0] 4) => ?_)
  refine in_I h4 (n := 10) rfl (by omega) (by omega) (Nat.le_of_ble_eq_true rfl) rfl (fun z5 (h5 : IN cR G 9 z5 Y [Value.int 0, Value.int 0, Value.int 0, Value.int 0, Value.int 0, Value.int 0, Value.int 0, Value.ref (Y + 1), Value.ref (Y + 2), Value.ref (Y + 3), Value.ref (Y + 4), Value.ref (Y + 5), Value.null, Value.null, Value.null, Value.null, Value.null, Value.null, Value.int 0, Value.null, Value.null, Value.null, Value.null, Value.null, Value.null, Value.null, Value.null, Value.null, Value.null, Value.null, Value.null, Value.null, Value.null, Value.int 0, Value.int 0, Value.int 0] 5) => ?_)
  refine in_I h5 (n := 10) rfl (by omega) (by omega) (Nat.le_of_ble_eq_true rfl) rfl (fun z6 (h6 : IN cR G 9 z6 Y [Value.int 0, Value.int 0, Value.int 0, Value.int 0, Value.int 0, Value.int 0, Value.int 0, Value.ref (Y + 1), Value.ref (Y + 2), Value.ref (Y + 3), Value.ref (Y + 4), Value.ref (Y + 5), Value.ref (Y + 6), Value.null, Value.null, Value.null, Value.null, Value.null, Value.int 0, Value.null, Value.null, Value.null, Value.null, Value.null, Value.null, Value.null, Value.null, Value.null, Value.null, Value.null, Value.null, Value.null, Value.null, Value.int 0, Value.int 0, Value.int 0] 6) => ?_)
  refine in_I h6 (n := 10) rfl (by omega) (by omega) (Nat.le_of_ble_eq_true rfl) rfl (fun z7 (h7 : IN cR G 9 z7 Y [Value.int 0, Value.int 0, Value.int 0, Value.int 0, Value.int 0, Value.int 0, Value.int 0, Value.ref (Y + 1), Value.ref (Y + 2), Value.ref (Y + 3), Value.ref (Y + 4), Value.ref (Y + 5), Value.ref (Y + 6), Value.ref (Y + 7), Value.null, Value.null, Value.null, Value.null, Value.int 0, Value.null, Value.null, Value.null, Value.null, Value.null, Value.null, Value.null, Value.null, Value.null, Value.null, Value.null, Value.null, Value.null, Value.null, Value.int 0, Value.int 0, Value.int 0] 7) => ?_)
  refine in_I h7 (n := 10) rfl (by omega) (by omega) (Nat.le_of_ble_eq_true rfl) rfl (fun z8 (h8 : IN cR G 9 z8 Y [Value.int 0, Value.int 0, Value.int 0, Value.int 0, Value.int 0, Value.int 0, Value.int 0, Value.ref (Y + 1), Value.ref (Y + 2), Value.ref (Y + 3), Value.ref (Y + 4), Value.ref (Y + 5), Value.ref (Y + 6), Value.ref (Y + 7), Value.ref (Y + 8), Value.null, Value.null, Value.null, Value.int 0, Value.null, Value.null, Value.null, Value.null, Value.null, Value.null, Value.null, Value.null, Value.null, Value.null, Value.null, Value.null, Value.null, Value.null, Value.int 0, Value.int 0, Value.int 0] 8) => ?_)
  refine in_I h8 (n := 10) rfl (by omega) (by omega) (Nat.le_of_ble_eq_true rfl) rfl (fun z9 (h9 : IN cR G 9 z9 Y [Value.int 0, Value.int 0, Value.int 0, Value.int 0, Value.int 0, Value.int 0, Value.int 0, Value.ref (Y + 1), Value.ref (Y + 2), Value.ref (Y + 3), Value.ref (Y + 4), Value.ref (Y + 5), Value.ref (Y + 6), Value.ref (Y + 7), Value.ref (Y + 8), Value.ref (Y + 9), Value.null, Value.null, Value.int 0, Value.null, Value.null, Value.null, Value.null, Value.null, Value.null, Value.null, Value.null, Value.null, Value.null, Value.null, Value.null, Value.null, Value.null, Value.int 0, Value.int 0, Value.int 0] 9) => ?_)
  refine in_I h9 (n := 10) rfl (by omega) (by omega) (Nat.le_of_ble_eq_true rfl) rfl (fun z10 (h10 : IN cR G 9 z10 Y [Value.int 0, Value.int 0, Value.int 0, Value.int 0, Value.int 0, Value.int 0, Value.int 0, Value.ref (Y + 1), Value.ref (Y + 2), Value.ref (Y + 3), Value.ref (Y + 4), Value.ref (Y + 5), Value.ref (Y + 6), Value.ref (Y + 7), Value.ref (Y + 8), Value.ref (Y + 9), Value.ref (Y + 10), Value.null, Value.int 0, Value.null, Value.null, Value.null, Value.null, Value.null, Value.null, Value.null, Value.null, Value.null, Value.null, Value.null, Value.null, Value.null, Value.null, Value.int 0, Value.int 0, Value.int 0] 10) => ?_)
  refine in_I h10 (n := 300) rfl (by omega) (by omega) (Nat.le_of_ble_eq_true rfl) rfl (fun z11 (h11 : IN cR G 9 z11 Y [Value.int 0, Value.int 0, Value.int 0, Value.int 0, Value.int 0, Value.int 0, Value.int 0, Value.ref (Y + 1), Value.ref (Y + 2), Value.ref (Y + 3), Value.ref (Y + 4), Value.ref (Y + 5), Value.ref (Y + 6), Value.ref (Y + 7), Value.ref (Y + 8), Value.ref (Y + 9), Value.ref (Y + 10), Value.ref (Y + 11), Value.int 0, Value.null, Value.null, Value.null, Value.null, Value.null, Value.null, Value.null, Value.null, Value.null, Value.null, Value.null, Value.null, Value.null, Value.null, Value.int 0, Value.int 0, Value.int 0] 11) => ?_)
  refine in_I h11 (n := 120) rfl (by omega) (by omega) (Nat.le_of_ble_eq_true rfl) rfl (fun z12 (h12 : IN cR G 9 z12 Y [Value.int 0, Value.int 0, Value.int 0, Value.int 0, Value.int 0, Value.int 0, Value.int 0, Value.ref (Y + 1), Value.ref (Y + 2), Value.ref (Y + 3), Value.ref (Y + 4), Value.ref (Y + 5), Value.ref (Y + 6), Value.ref (Y + 7), Value.ref (Y + 8), Value.ref (Y + 9), Value.ref (Y + 10), Value.ref (Y + 11), Value.int 0, Value.ref (Y + 12), Value.null, Value.null, Value.null, Value.null, Value.null, Value.null, Value.null, Value.null, Value.null, Value.null, Value.null, Value.null, Value.null, Value.int 0, Value.int 0, Value.int 0] 12) => ?_)
  refine in_I h12 (n := 3600) rfl (by omega) (by omega) (Nat.le_of_ble_eq_true rfl) rfl (fun z13 (h13 : IN cR G 9 z13 Y [Value.int 0, Value.int 0, Value.int 0, Value.int 0, Value.int 0, Value.int 0, Value.int 0, Value.ref (Y + 1), Value.ref (Y + 2), Value.ref (Y + 3), Value.ref (Y + 4), Value.ref (Y + 5), Value.ref (Y + 6), Value.ref (Y + 7), Value.ref (Y + 8), Value.ref (Y + 9), Value.ref (Y + 10), Value.ref (Y + 11), Value.int 0, Value.ref (Y + 12), Value.ref (Y + 13), Value.null, Value.null, Value.null, Value.null, Value.null, Value.null, Value.null, Value.null, Value.null, Value.null, Value.null, Value.null, Value.int 0, Value.int 0, Value.int 0] 13) => ?_)
  refine in_I h13 (n := 12) rfl (by omega) (by omega) (Nat.le_of_ble_eq_true rfl) rfl (fun z14 (h14 : IN cR G 9 z14 Y [Value.int 0, Value.int 0, Value.int 0, Value.int 0, Value.int 0, Value.int 0, Value.int 0, Value.ref (Y + 1), Value.ref (Y + 2), Value.ref (Y + 3), Value.ref (Y + 4), Value.ref (Y + 5), Value.ref (Y + 6), Value.ref (Y + 7), Value.ref (Y + 8), Value.ref (Y + 9), Value.ref (Y + 10), Value.ref (Y + 11), Value.int 0, Value.ref (Y + 12), Value.ref (Y + 13), Value.ref (Y + 14), Value.null, Value.null, Value.null, Value.null, Value.null, Value.null, Value.null, Value.null, Value.null, Value.null, Value.null, Value.int 0, Value.int 0, Value.int 0] 14) => ?_)
  refine in_I h14 (n := 12) rfl (by omega) (by omega) (Nat.le_of_ble_eq_true rfl) rfl (fun z15 (h15 : IN cR G 9 z15 Y [Value.int 0, Value.int 0, Value.int 0, Value.int 0, Value.int 0, Value.int 0, Value.int 0, Value.ref (Y + 1), Value.ref (Y + 2), Value.ref (Y + 3), Value.ref (Y + 4), Value.ref (Y + 5), Value.ref (Y + 6), Value.ref (Y + 7), Value.ref (Y + 8), Value.ref (Y + 9), Value.ref (Y + 10), Value.ref (Y + 11), Value.int 0, Value.ref (Y + 12), Value.ref (Y + 13), Value.ref (Y + 14), Value.ref (Y + 15), Value.null, Value.null, Value.null, Value.null, Value.null, Value.null, Value.null, Value.null, Value.null, Value.null, Value.int 0, Value.int 0, Value.int 0] 15) => ?_)
  refine in_I h15 (n := 3600) rfl (by omega) (by omega) (Nat.le_of_ble_eq_true rfl) rfl (fun z16 (h16 : IN cR G 9 z16 Y [Value.int 0, Value.int 0, Value.int 0, Value.int 0, Value.int 0, Value.int 0, Value.int 0, Value.ref (Y + 1), Value.ref (Y + 2), Value.ref (Y + 3), Value.ref (Y + 4), Value.ref (Y + 5), Value.ref (Y + 6), Value.ref (Y + 7), Value.ref (Y + 8), Value.ref (Y + 9), Value.ref (Y + 10), Value.ref (Y + 11), Value.int 0, Value.ref (Y + 12), Value.ref (Y + 13), Value.ref (Y + 14), Value.ref (Y + 15), Value.ref (Y + 16), Value.null, Value.null, Value.null, Value.null, Value.null, Value.null, Value.null, Value.null, Value.null, Value.int 0, Value.int 0, Value.int 0] 16) => ?_)
  refine in_I h16 (n := 12) rfl (by omega) (by omega) (Nat.le_of_ble_eq_true rfl) rfl (fun z17 (h17 : IN cR G 9 z17 Y [Value.int 0, Value.int 0, Value.int 0, Value.int 0, Value.int 0, Value.int 0, Value.int 0, Value.ref (Y + 1), Value.ref (Y + 2), Value.ref (Y + 3), Value.ref (Y + 4), Value.ref (Y + 5), Value.ref (Y + 6), Value.ref (Y + 7), Value.ref (Y + 8), Value.ref (Y + 9), Value.ref (Y + 10), Value.ref (Y + 11), Value.int 0, Value.ref (Y + 12), Value.ref (Y + 13), Value.ref (Y + 14), Value.ref (Y + 15), Value.ref (Y + 16), Value.ref (Y + 17), Value.null, Value.null, Value.null, Value.null, Value.null, Value.null, Value.null, Value.null, Value.int 0, Value.int 0, Value.int 0] 17) => ?_)
  refine in_I h17 (n := 12) rfl (by omega) (by omega) (Nat.le_of_ble_eq_true rfl) rfl (fun z18 (h18 : IN cR G 9 z18 Y [Value.int 0, Value.int 0, Value.int 0, Value.int 0, Value.int 0, Value.int 0, Value.int 0, Value.ref (Y + 1), Value.ref (Y + 2), Value.ref (Y + 3), Value.ref (Y + 4), Value.ref (Y + 5), Value.ref (Y + 6), Value.ref (Y + 7), Value.ref (Y + 8), Value.ref (Y + 9), Value.ref (Y + 10), Value.ref (Y + 11), Value.int 0, Value.ref (Y + 12), Value.ref (Y + 13), Value.ref (Y + 14), Value.ref (Y + 15), Value.ref (Y + 16), Value.ref (Y + 17), Value.ref (Y + 18), Value.null, Value.null, Value.null, Value.null, Value.null, Value.null, Value.null, Value.int 0, Value.int 0, Value.int 0] 18) => ?_)
  refine in_I h18 (n := 12) rfl (by omega) (by omega) (Nat.le_of_ble_eq_true rfl) rfl (fun z19 (h19 : IN cR G 9 z19 Y [Value.int 0, Value.int 0, Value.int 0, Value.int 0, Value.int 0, Value.int 0, Value.int 0, Value.ref (Y + 1), Value.ref (Y + 2), Value.ref (Y + 3), Value.ref (Y + 4), Value.ref (Y + 5), Value.ref (Y + 6), Value.ref (Y + 7), Value.ref (Y + 8), Value.ref (Y + 9), Value.ref (Y + 10), Value.ref (Y + 11), Value.int 0, Value.ref (Y + 12), Value.ref (Y + 13), Value.ref (Y + 14), Value.ref (Y + 15), Value.ref (Y + 16), Value.ref (Y + 17), Value.ref (Y + 18), Value.ref (Y + 19), Value.null, Value.null, Value.null, Value.null, Value.null, Value.null, Value.int 0, Value.int 0, Value.int 0] 19) => ?_)
  refine in_I h19 (n := 200) rfl (by omega) (by omega) (Nat.le_of_ble_eq_true rfl) rfl (fun z20 (h20 : IN cR G 9 z20 Y [Value.int 0, Value.int 0, Value.int 0, Value.int 0, Value.int 0, Value.int 0, Value.int 0, Value.ref (Y + 1), Value.ref (Y + 2), Value.ref (Y + 3), Value.ref (Y + 4), Value.ref (Y + 5), Value.ref (Y + 6), Value.ref (Y + 7), Value.ref (Y + 8), Value.ref (Y + 9), Value.ref (Y + 10), Value.ref (Y + 11), Value.int 0, Value.ref (Y + 12), Value.ref (Y + 13), Value.ref (Y + 14), Value.ref (Y + 15), Value.ref (Y + 16), Value.ref (Y + 17), Value.ref (Y + 18), Value.ref (Y + 19), Value.ref (Y + 20), Value.null, Value.null, Value.null, Value.null, Value.null, Value.int 0, Value.int 0, Value.int 0] 20) => ?_)
  refine in_I h20 (n := 200) rfl (by omega) (by omega) (Nat.le_of_ble_eq_true rfl) rfl (fun z21 (h21 : IN cR G 9 z21 Y [Value.int 0, Value.int 0, Value.int 0, Value.int 0, Value.int 0, Value.int 0, Value.int 0, Value.ref (Y + 1), Value.ref (Y + 2), Value.ref (Y + 3), Value.ref (Y + 4), Value.ref (Y + 5), Value.ref (Y + 6), Value.ref (Y + 7), Value.ref (Y + 8), Value.ref (Y + 9), Value.ref (Y + 10), Value.ref (Y + 11), Value.int 0, Value.ref (Y + 12), Value.ref (Y + 13), Value.ref (Y + 14), Value.ref (Y + 15), Value.ref (Y + 16), Value.ref (Y + 17), Value.ref (Y + 18), Value.ref (Y + 19), Value.ref (Y + 20), Value.ref (Y + 21), Value.null, Value.null, Value.null, Value.null, Value.int 0, Value.int 0, Value.int 0] 21) => ?_)
  refine in_I h21 (n := 200) rfl (by omega) (by omega) (Nat.le_of_ble_eq_true rfl) rfl (fun z22 (h22 : IN cR G 9 z22 Y [Value.int 0, Value.int 0, Value.int 0, Value.int 0, Value.int 0, Value.int 0, Value.int 0, Value.ref (Y + 1), Value.ref (Y + 2), Value.ref (Y + 3), Value.ref (Y + 4), Value.ref (Y + 5), Value.ref (Y + 6), Value.ref (Y + 7), Value.ref (Y + 8), Value.ref (Y + 9), Value.ref (Y + 10), Value.ref (Y + 11), Value.int 0, Value.ref (Y + 12), Value.ref (Y + 13), Value.ref (Y + 14), Value.ref (Y + 15), Value.ref (Y + 16), Value.ref (Y + 17), Value.ref (Y + 18), Value.ref (Y + 19), Value.ref (Y + 20), Value.ref (Y + 21), Value.ref (Y + 22), Value.null, Value.null, Value.null, Value.int 0, Value.int 0, Value.int 0] 22) => ?_)
  refine in_I h22 (n := 20) rfl (by omega) (by omega) (Nat.le_of_ble_eq_true rfl) rfl (fun z23 (h23 : IN cR G 9 z23 Y [Value.int 0, Value.int 0, Value.int 0, Value.int 0, Value.int 0, Value.int 0, Value.int 0, Value.ref (Y + 1), Value.ref (Y + 2), Value.ref (Y + 3), Value.ref (Y + 4), Value.ref (Y + 5), Value.ref (Y + 6), Value.ref (Y + 7), Value.ref (Y + 8), Value.ref (Y + 9), Value.ref (Y + 10), Value.ref (Y + 11), Value.int 0, Value.ref (Y + 12), Value.ref (Y + 13), Value.ref (Y + 14), Value.ref (Y + 15), Value.ref (Y + 16), Value.ref (Y + 17), Value.ref (Y + 18), Value.ref (Y + 19), Value.ref (Y + 20), Value.ref (Y + 21), Value.ref (Y + 22), Value.ref (Y + 23), Value.null, Value.null, Value.int 0, Value.int 0, Value.int 0] 23) => ?_)
  refine in_I h23 (n := 20) rfl (by omega) (by omega) (Nat.le_of_ble_eq_true rfl) rfl (fun z24 (h24 : IN cR G 9 z24 Y [Value.int 0, Value.int 0, Value.int 0, Value.int 0, Value.int 0, Value.int 0, Value.int 0, Value.ref (Y + 1), Value.ref (Y + 2), Value.ref (Y + 3), Value.ref (Y + 4), Value.ref (Y + 5), Value.ref (Y + 6), Value.ref (Y + 7), Value.ref (Y + 8), Value.ref (Y + 9), Value.ref (Y + 10), Value.ref (Y + 11), Value.int 0, Value.ref (Y + 12), Value.ref (Y + 13), Value.ref (Y + 14), Value.ref (Y + 15), Value.ref (Y + 16), Value.ref (Y + 17), Value.ref (Y + 18), Value.ref (Y + 19), Value.ref (Y + 20), Value.ref (Y + 21), Value.ref (Y + 22), Value.ref (Y + 23), Value.ref (Y + 24), Value.null, Value.int 0, Value.int 0, Value.int 0] 24) => ?_)
  refine in_I h24 (n := 20) rfl (by omega) (by omega) (Nat.le_of_ble_eq_true rfl) rfl (fun z25 (h25 : IN cR G 9 z25 Y [Value.int 0, Value.int 0, Value.int 0, Value.int 0, Value.int 0, Value.int 0, Value.int 0, Value.ref (Y + 1), Value.ref (Y + 2), Value.ref (Y + 3), Value.ref (Y + 4), Value.ref (Y + 5), Value.ref (Y + 6), Value.ref (Y + 7), Value.ref (Y + 8), Value.ref (Y + 9), Value.ref (Y + 10), Value.ref (Y + 11), Value.int 0, Value.ref (Y + 12), Value.ref (Y + 13), Value.ref (Y + 14), Value.ref (Y + 15), Value.ref (Y + 16), Value.ref (Y + 17), Value.ref (Y + 18), Value.ref (Y + 19), Value.ref (Y + 20), Value.ref (Y + 21), Value.ref (Y + 22), Value.ref (Y + 23), Value.ref (Y + 24), Value.ref (Y + 25), Value.int 0, Value.int 0, Value.int 0] 25) => ?_)
  refine in_P h25 (Nat.le_of_ble_eq_true rfl) (fun z26 h26 => ?_)
  exact ⟨z26, rfl, h26⟩
/-- the beginning -/
theorem sim_init (n : Nat) : ∀ sz : Nat, ∃ z1 z2 : gS, fMain_init n sz (g_nw (fun _ => none, sz) (.inr (8, [.null, .null, .null, .null, .null, .null, .int 0, .int 0, .int 0, .int 0, .int 0, .int 0, .int 0, .int 0]))) = some z1 ∧ fRef_init n z1.2 (fun q => if q = z1.2 then some (.inr (9, [.int 0, .int 0, .int 0, .int 0, .int 0, .int 0, .int 0, .null, .null, .null, .null, .null, .null, .null, .null, .null, .null, .null, .int 0, .null, .null, .null, .null, .null, .null, .null, .null, .null, .null, .null, .null, .null, .null, .int 0, .int 0, .int 0])) else none, z1.2 + 1) = some z2 ∧ Sim sz z1.2 z1.1 z2.1 z2.2 := by
  intro sz
  obtain ⟨z1, e1, a1, a2, a3, -⟩ := main_make (fun _ => none) sz n
  obtain ⟨z2, e2, b1, b2, b3, -⟩ := ref_make (fun _ => none) z1.2 n
  refine ⟨z1, z2, e1, e2, ?_⟩
  obtain ⟨Y, eY⟩ : ∃ Y, Y = z1.2 := ⟨_, rfl⟩
  rw [← eY] at b1 b2 b3 ⊢
  let ad : Nat → Nat → Nat := fun t _ => sz + t
  let sI : Nat → Nat → Int32 := fun t _ => if t = 8 then -1 else 0
  let sO : Nat → Nat → Option Nat := fun _ _ => none
  let sL : Nat → Nat → List Int32 := fun _ _ => []
  let sN : Nat → Nat → Nat := fun _ _ => 0
  let ce : Nat → Nat → gE := fun t _ => if t = 0 then cM ad sI sN else cI sz t
  let bd : Nat → Nat := fun k => if k = 0 then Y else if k ≤ 17 then Y + (k - 6) else Y + (k - 7)
  let iv : Nat → Int32 := up1 (fun _ => 0) 33 (-1)
  let fa : Nat → Nat → Int32 := fun _ _ => 0
  have cn : ∀ t i, i < cnC sN t → t < 13 ∧ i = 0 := by
    intro t i h
    unfold cnC at h
    by_cases q : t < 13
    · rw [if_pos q] at h
      exact ⟨q, by omega⟩
    · rw [if_neg q] at h
      exfalso
      split at h
      · exact absurd h (Nat.not_lt_zero _)
      · split at h
        · exact absurd h (Nat.not_lt_zero _)
        · split at h
          · exact absurd h (Nat.not_lt_zero _)
          · split at h
            · exact absurd h (Nat.not_lt_zero _)
            · exact absurd h (Nat.not_lt_zero _)
  have hC : C1 z1 ad ce sI sO sL sN [] := by
    refine ⟨⟨fun t i h => ?_, fun t i h => ?_, fun t i t' i' h h' e => ?_⟩, rfl, ⟨by show (0 : Nat) ≤ 10; omega, ⟨fun _ => none, rfl, fun i hi => absurd hi (Nat.not_lt_zero _)⟩, fun i hi => absurd hi (Nat.not_lt_zero _)⟩, ⟨by show (0 : Nat) ≤ 24; omega, fun i hi => absurd hi (Nat.not_lt_zero _)⟩, ⟨by show (0 : Nat) ≤ 12; omega, ⟨fun _ => none, rfl, fun i hi => absurd hi (Nat.not_lt_zero _)⟩, fun i hi => absurd hi (Nat.not_lt_zero _)⟩, ⟨by show (0 : Nat) ≤ 20; omega, ⟨fun _ => none, rfl, fun i hi => absurd hi (Nat.not_lt_zero _)⟩, fun i hi => absurd hi (Nat.not_lt_zero _)⟩, ⟨rfl, by simp, fun _ => 0, rfl, fun i hi => by simp at hi⟩, ⟨rfl, by simp [sL], by omega, fun _ => 0, rfl, fun j hj => by simp [sL] at hj⟩, ⟨0, fun _ => none, fun _ => 0, fun _ => 0, fun _ => 0, rfl, rfl, rfl, rfl, rfl⟩⟩
    · obtain ⟨q1, rfl⟩ := cn t i h
      by_cases q : t = 0
      · subst q
        exact a1
      · show z1.1 (sz + t) = some (if t = 0 then cM ad sI sN else cI sz t)
        rw [if_neg q]
        exact a3 t (by omega) (by omega)
    · obtain ⟨q1, rfl⟩ := cn t i h
      show sz + t < z1.2
      omega
    · obtain ⟨q1, rfl⟩ := cn t i h
      obtain ⟨q2, rfl⟩ := cn t' i' h'
      have : sz + t = sz + t' := e
      exact ⟨by omega, rfl⟩
  have hR : R2 z2 bd iv fa := by
    refine ⟨b1, fun k hk => ?_, fun j k hj hk e => ?_, fun k hk => ?_⟩
    · obtain ⟨k1, k2, k3⟩ := hk
      show z2.1 (if k = 0 then Y else if k ≤ 17 then Y + (k - 6) else Y + (k - 7)) = some (.inl (aT k, aN k, .inl (fun _ => 0)))
      rw [if_neg (by omega)]
      by_cases q : k ≤ 17
      · rw [if_pos q, b3 (k - 6) (by omega) (by omega)]
        unfold cR kq
        rw [if_pos (by omega), show k - 6 + 6 = k by omega]
      · rw [if_neg q, b3 (k - 7) (by omega) (by omega)]
        unfold cR kq
        rw [if_neg (by omega), show k - 7 + 7 = k by omega]
    · obtain ⟨j1, j2, j3⟩ := hj
      obtain ⟨k1, k2, k3⟩ := hk
      have e' : (if j = 0 then Y else if j ≤ 17 then Y + (j - 6) else Y + (j - 7)) = (if k = 0 then Y else if k ≤ 17 then Y + (k - 6) else Y + (k - 7)) := e
      rw [if_neg (show ¬ j = 0 by omega), if_neg (show ¬ k = 0 by omega)] at e'
      split at e' <;> split at e' <;> omega
    · show (if k = 0 then Y else if k ≤ 17 then Y + (k - 6) else Y + (k - 7)) < z2.2
      unfold aK at hk
      split
      · omega
      · split <;> omega
  refine ⟨ad, ce, bd, iv, fa, sI, sO, sL, sN, [], rfl, rfl, C1.sz (G := z1.1) (s1 := z1.2) hC (by omega), hR, ?_, ?_⟩
  · exact ⟨⟨rfl, rfl, rfl, rfl, rfl, rfl, rfl, rfl, fun h => absurd rfl h⟩, fun v hv => absurd hv (Nat.not_lt_zero _), fun v hv => absurd hv (Nat.not_lt_zero _), fun _ _ _ => ⟨rfl, rfl⟩, fun v hv => absurd hv (Nat.not_lt_zero _), fun v hv => absurd hv (Nat.not_lt_zero _), fun _ _ _ => ⟨rfl, rfl, rfl, rfl, rfl⟩, fun v hv => absurd hv (Nat.not_lt_zero _), fun v hv => absurd hv (Nat.not_lt_zero _)⟩
  · exact ⟨⟨0, by omega, rfl⟩, fun _ => ⟨rfl, rfl⟩, fun x hx => absurd hx List.not_mem_nil, fun v hv => absurd hv (Nat.not_lt_zero _), fun v hv => absurd hv (Nat.not_lt_zero _), fun v hv => absurd hv (Nat.not_lt_zero _), fun v hv => absurd hv (Nat.not_lt_zero _)⟩
