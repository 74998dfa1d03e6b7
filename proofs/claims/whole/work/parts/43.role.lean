/-! ROLES: a heap by roles (t, i) in place of addresses: no two roles share an address -/
def ru {α : Type} (f : Nat → Nat → α) (t i : Nat) (x : α) : Nat → Nat → α := fun t' i' => if t' = t ∧ i' = i then x else f t' i'
def up1 {α : Type} (f : Nat → α) (t : Nat) (x : α) : Nat → α := fun t' => if t' = t then x else f t'
theorem ru_s {α : Type} (f : Nat → Nat → α) (t i : Nat) (x : α) : ru f t i x t i = x := by simp [ru]
theorem ru_n {α : Type} (f : Nat → Nat → α) {t i t' i' : Nat} (x : α) (h : ¬ (t' = t ∧ i' = i)) : ru f t i x t' i' = f t' i' := by simp [ru, h]
theorem ru_t {α : Type} (f : Nat → Nat → α) {t i t' i' : Nat} (x : α) (h : t' ≠ t) : ru f t i x t' i' = f t' i' := by simp [ru, h]
theorem ru_i {α : Type} (f : Nat → Nat → α) {t i i' : Nat} (x : α) (h : i' ≠ i) : ru f t i x t i' = f t i' := by simp [ru, h]
def rh (z : gS) (ad : Nat → Nat → Nat) (ce : Nat → Nat → gE) (cn : Nat → Nat) : Prop :=
  (∀ t i, i < cn t → z.1 (ad t i) = some (ce t i)) ∧ (∀ t i, i < cn t → ad t i < z.2) ∧ (∀ t i t' i', i < cn t → i' < cn t' → ad t i = ad t' i' → t = t' ∧ i = i')
theorem rh.get {z : gS} {ad : Nat → Nat → Nat} {ce : Nat → Nat → gE} {cn : Nat → Nat} (h : rh z ad ce cn) {t i : Nat} {x : gE} (hi : i < cn t) (hx : ce t i = x) : z.1 (ad t i) = some x := by rw [h.1 t i hi, hx]
theorem rh.ne {z : gS} {ad : Nat → Nat → Nat} {ce : Nat → Nat → gE} {cn : Nat → Nat} (h : rh z ad ce cn) {t i t' i' : Nat} (hi : i < cn t) (hi' : i' < cn t') (hn : ¬ (t = t' ∧ i = i')) : ad t i ≠ ad t' i' := fun e => hn (h.2.2 t i t' i' hi hi' e)
theorem rh.set {z : gS} {ad : Nat → Nat → Nat} {ce : Nat → Nat → gE} {cn : Nat → Nat} (h : rh z ad ce cn) {t i : Nat} (hi : i < cn t) (x : gE) : rh (g_up z (ad t i) x) ad (ru ce t i x) cn := by
  refine ⟨fun t' i' hi' => ?_, h.2.1, h.2.2⟩
  by_cases e : t' = t ∧ i' = i
  · obtain ⟨rfl, rfl⟩ := e
    rw [q_up, ru_s]
  · rw [q_un (h.ne hi' hi e), ru_n _ _ e]
    exact h.1 t' i' hi'
theorem rh.two {z z1 : gS} {ad : Nat → Nat → Nat} {ce : Nat → Nat → gE} {cn : Nat → Nat} (h : rh z ad ce cn) {t1 i1 t2 i2 : Nat} {x1 x2 : gE} (h1 : i1 < cn t1) (h2 : i2 < cn t2) (hz : z1.2 = z.2) (g1 : z1.1 (ad t1 i1) = some x1) (g2 : z1.1 (ad t2 i2) = some x2) (ho : ∀ b, b ≠ ad t1 i1 → b ≠ ad t2 i2 → z1.1 b = z.1 b) : rh z1 ad (ru (ru ce t1 i1 x1) t2 i2 x2) cn := by
  refine ⟨fun t i hi => ?_, fun t i hi => by rw [hz]; exact h.2.1 t i hi, h.2.2⟩
  by_cases e2 : t = t2 ∧ i = i2
  · obtain ⟨rfl, rfl⟩ := e2
    rw [ru_s, g2]
  · rw [ru_n _ _ e2]
    by_cases e1 : t = t1 ∧ i = i1
    · obtain ⟨rfl, rfl⟩ := e1
      rw [ru_s, g1]
    · rw [ru_n _ _ e1, ho _ (h.ne hi h1 e1) (h.ne hi h2 e2)]
      exact h.1 t i hi
theorem rh.new {z : gS} {ad : Nat → Nat → Nat} {ce : Nat → Nat → gE} {cn : Nat → Nat} (h : rh z ad ce cn) (t : Nat) (x : gE) : rh (g_nw z x) (ru ad t (cn t) z.2) (ru ce t (cn t) x) (up1 cn t (cn t + 1)) := by
  have hold : ∀ t' i', i' < up1 cn t (cn t + 1) t' → ¬ (t' = t ∧ i' = cn t) → i' < cn t' := by
    intro t' i' h1 h2
    unfold up1 at h1
    by_cases e : t' = t
    · rw [if_pos e] at h1
      subst e
      have : i' ≠ cn t' := fun q => h2 ⟨rfl, q⟩
      omega
    · rw [if_neg e] at h1
      exact h1
  refine ⟨fun t' i' hi' => ?_, fun t' i' hi' => ?_, fun t1 i1 t2 i2 hi1 hi2 he => ?_⟩
  · by_cases e : t' = t ∧ i' = cn t
    · obtain ⟨rfl, rfl⟩ := e
      rw [ru_s, ru_s, q_nw]
    · have ho := hold t' i' hi' e
      rw [ru_n _ _ e, ru_n _ _ e, q_nn (h.2.1 t' i' ho)]
      exact h.1 t' i' ho
  · rw [q_n2]
    by_cases e : t' = t ∧ i' = cn t
    · obtain ⟨rfl, rfl⟩ := e
      rw [ru_s]
      omega
    · rw [ru_n _ _ e]
      have := h.2.1 t' i' (hold t' i' hi' e)
      omega
  · by_cases e1 : t1 = t ∧ i1 = cn t
    · by_cases e2 : t2 = t ∧ i2 = cn t
      · exact ⟨e1.1.trans e2.1.symm, e1.2.trans e2.2.symm⟩
      · obtain ⟨rfl, rfl⟩ := e1
        rw [ru_s, ru_n _ _ e2] at he
        have := h.2.1 t2 i2 (hold t2 i2 hi2 e2)
        omega
    · by_cases e2 : t2 = t ∧ i2 = cn t
      · obtain ⟨rfl, rfl⟩ := e2
        rw [ru_s, ru_n _ _ e1] at he
        have := h.2.1 t1 i1 (hold t1 i1 hi1 e1)
        omega
      · rw [ru_n _ _ e1, ru_n _ _ e2] at he
        exact h.2.2 t1 i1 t2 i2 (hold t1 i1 hi1 e1) (hold t2 i2 hi2 e2) he
theorem rh.cn {z : gS} {ad : Nat → Nat → Nat} {ce : Nat → Nat → gE} {cn cn' : Nat → Nat} (h : rh z ad ce cn) (hc : ∀ t, cn' t = cn t) : rh z ad ce cn' := by
  have : cn' = cn := funext hc
  rw [this]
  exact h
/-- a text in two roles: the Text at t, its row at t + 1 -/
def rtx (ad : Nat → Nat → Nat) (ce : Nat → Nat → gE) (t i cap : Nat) (xs : List Int32) : Prop := ce t i = .inr (0, [.ref (ad (t + 1) i), .int (nI xs.length)]) ∧ xs.length ≤ cap ∧ cap ≤ 1000 ∧ ∃ f : Nat → Int32, ce (t + 1) i = .inl (.char, cap, .inl f) ∧ ∀ j, j < xs.length → xs[j]? = some (f j)
theorem rtx.tx {z : gS} {ad : Nat → Nat → Nat} {ce : Nat → Nat → gE} {cn : Nat → Nat} {t i cap : Nat} {xs : List Int32} (hx : rtx ad ce t i cap xs) (h : rh z ad ce cn) (h1 : i < cn t) (h2 : i < cn (t + 1)) : tx z (ad t i) (ad (t + 1) i) cap xs := by
  obtain ⟨g1, g2, g3, f, g4, g5⟩ := hx
  exact ⟨h.get h1 g1, g2, g3, f, h.get h2 g4, g5⟩
theorem rtx.keep {ad ad' : Nat → Nat → Nat} {ce ce' : Nat → Nat → gE} {t i cap : Nat} {xs : List Int32} (hx : rtx ad ce t i cap xs) (h0 : ad' (t + 1) i = ad (t + 1) i) (h1 : ce' t i = ce t i) (h2 : ce' (t + 1) i = ce (t + 1) i) : rtx ad' ce' t i cap xs := by
  obtain ⟨g1, g2, g3, f, g4, g5⟩ := hx
  exact ⟨by rw [h1, g1, h0], g2, g3, f, by rw [h2, g4], g5⟩
theorem rh.text {z z1 : gS} {ad : Nat → Nat → Nat} {ce : Nat → Nat → gE} {cn : Nat → Nat} {t i cap : Nat} {xs : List Int32} (h : rh z ad ce cn) (h1 : i < cn t) (h2 : i < cn (t + 1)) (hx : tx z1 (ad t i) (ad (t + 1) i) cap xs) (hz : z1.2 = z.2) (ho : ∀ b, b ≠ ad t i → b ≠ ad (t + 1) i → z1.1 b = z.1 b) : ∃ ce' : Nat → Nat → gE, rh z1 ad ce' cn ∧ rtx ad ce' t i cap xs ∧ ∀ t' i', ¬ (i' = i ∧ (t' = t ∨ t' = t + 1)) → ce' t' i' = ce t' i' := by
  obtain ⟨g1, g2, g3, f, g4, g5⟩ := hx
  refine ⟨_, h.two h1 h2 hz g1 g4 ho, ⟨?_, g2, g3, f, ru_s _ _ _ _, g5⟩, fun t' i' hn => ?_⟩
  · rw [ru_t _ _ (by omega), ru_s]
  · rw [ru_n _ _ (fun q => hn ⟨q.2, Or.inr q.1⟩), ru_n _ _ (fun q => hn ⟨q.2, Or.inl q.1⟩)]
/-- a role's cell is an object: reading it -/
theorem rh.o {z : gS} {ad : Nat → Nat → Nat} {ce : Nat → Nat → gE} {cn : Nat → Nat} (h : rh z ad ce cn) {t i ci : Nat} {fs : List Value} (hi : i < cn t) (hx : ce t i = .inr (ci, fs)) : z.1 (ad t i) = some (.inr (ci, fs)) := h.get hi hx
