/-! LAYER 2: what the functions answer; first the readers of the ghost heap -/
theorem q_o {z : gS} {a ci : Nat} {fs : List Value} (h : z.1 a = some (.inr (ci, fs))) : g_o z a ci = some fs := by simp [g_o, h]
theorem q_fI {z : gS} {a ci k : Nat} {fs : List Value} {x : Int32} (h : z.1 a = some (.inr (ci, fs))) (hx : fs[k]? = some (.int x)) : g_fI z a ci k = some x := by simp [g_fI, q_o h, hx, g_vI]
theorem q_fR {z : gS} {a ci k : Nat} {fs : List Value} {r : Option Nat} (h : z.1 a = some (.inr (ci, fs))) (hx : fs[k]? = some (va_rf r)) : g_fR z a ci k = some r := by
  cases r <;> simp [g_fR, q_o h, hx, va_rf, g_vR]
theorem q_pF {z : gS} {a ci k : Nat} {fs : List Value} {v : Value} (h : z.1 a = some (.inr (ci, fs))) (hk : k < fs.length) : g_pF z a ci k v = some (g_up z a (.inr (ci, fs.set k v))) := by simp [g_pF, q_o h, hk]
theorem q_is {z : gS} {a ci : Nat} {fs : List Value} (h : z.1 a = some (.inr (ci, fs))) : g_is z a ci = some () := by simp [g_is, q_o h]
theorem q_len {z : gS} {a n : Nat} {ty : FieldType} {f : Nat → Int32} (h : z.1 a = some (.inl (ty, n, .inl f))) : g_len z a = some (nI n) := by simp [g_len, h, nI]
theorem q_lenR {z : gS} {a n : Nat} {ty : FieldType} {f : Nat → Option Nat} (h : z.1 a = some (.inl (ty, n, .inr (.inr (.inr (.inr f)))))) : g_len z a = some (nI n) := by simp [g_len, h, nI]
theorem q_ldI {z : gS} {a n j : Nat} {ty : FieldType} {f : Nat → Int32} (h : z.1 a = some (.inl (ty, n, .inl f))) (hj : j < n) (hn : n < 2 ^ 31) : g_ldI z ty a (nI j) = some (f j) := by
  have h1 := nI_in hj hn
  have h2 : (nI j).toNatClampNeg = j := nI_clamp (by omega)
  unfold g_ldI
  simp only [g_aI, h, if_true, Option.bind_some]
  rw [if_neg h1, h2]
theorem q_stI {z : gS} {a n j : Nat} {ty : FieldType} {f : Nat → Int32} {x : Int32} (h : z.1 a = some (.inl (ty, n, .inl f))) (hj : j < n) (hn : n < 2 ^ 31) : g_stI z ty a (nI j) x = some (g_up z a (.inl (ty, n, .inl (upd f j x)))) := by
  have h1 := nI_in hj hn
  have h2 : (nI j).toNatClampNeg = j := nI_clamp (by omega)
  unfold g_stI
  simp only [g_aI, h, if_true, Option.bind_some]
  rw [if_neg h1, h2]
theorem q_ldR {z : gS} {a n j : Nat} {ty : FieldType} {f : Nat → Option Nat} (h : z.1 a = some (.inl (ty, n, .inr (.inr (.inr (.inr f)))))) (hj : j < n) (hn : n < 2 ^ 31) : g_ldR z ty a (nI j) = some (f j) := by
  have h1 := nI_in hj hn
  have h2 : (nI j).toNatClampNeg = j := nI_clamp (by omega)
  unfold g_ldR
  simp only [g_aR, h, if_true, Option.bind_some]
  rw [if_neg h1, h2]
theorem q_stR {z : gS} {a n j : Nat} {ty : FieldType} {f : Nat → Option Nat} {r : Option Nat} (h : z.1 a = some (.inl (ty, n, .inr (.inr (.inr (.inr f)))))) (hj : j < n) (hn : n < 2 ^ 31) : g_stR z ty a (nI j) r = some (g_up z a (.inl (ty, n, .inr (.inr (.inr (.inr (va_up f j r))))))) := by
  have h1 := nI_in hj hn
  have h2 : (nI j).toNatClampNeg = j := nI_clamp (by omega)
  unfold g_stR
  simp only [g_aR, h, if_true, Option.bind_some]
  rw [if_neg h1, h2]
theorem q_up {z : gS} {a : Nat} {x : gE} : (g_up z a x).1 a = some x := by simp [g_up]
theorem q_un {z : gS} {a b : Nat} {x : gE} (h : b ≠ a) : (g_up z a x).1 b = z.1 b := by simp [g_up, h]
theorem q_u2 {z : gS} {a : Nat} {x : gE} : (g_up z a x).2 = z.2 := rfl
theorem q_nw {z : gS} {x : gE} : (g_nw z x).1 z.2 = some x := by simp [g_nw]
theorem q_nn {z : gS} {b : Nat} {x : gE} (h : b < z.2) : (g_nw z x).1 b = z.1 b := by
  have h1 : b ≠ z.2 := by omega
  simp [g_nw, h1]
theorem q_n2 {z : gS} {x : gE} : (g_nw z x).2 = z.2 + 1 := rfl
theorem q_nI {z : gS} {ty : FieldType} {n B : Nat} (hn : n ≤ B) (hB : B < 2 ^ 31) : g_nwI z ty (nI n) B = some (z.2, g_nw z (.inl (ty, n, .inl (fun _ => 0)))) := by
  have h2 : (nI n).toNatClampNeg = n := nI_clamp (by omega)
  have h1 : ¬ (nI n < 0 ∨ B < (nI n).toNatClampNeg) := by
    rw [h2]
    intro h
    rcases h with h | h
    · exact nI_pos (by omega) h
    · omega
  unfold g_nwI
  rw [if_neg h1, h2]
theorem q_nR {z : gS} {ty : FieldType} {n B : Nat} (hn : n ≤ B) (hB : B < 2 ^ 31) : g_nwR z ty (nI n) B = some (z.2, g_nw z (.inl (ty, n, .inr (.inr (.inr (.inr (fun _ => none))))))) := by
  have h2 : (nI n).toNatClampNeg = n := nI_clamp (by omega)
  have h1 : ¬ (nI n < 0 ∨ B < (nI n).toNatClampNeg) := by
    rw [h2]
    intro h
    rcases h with h | h
    · exact nI_pos (by omega) h
    · omega
  unfold g_nwR
  rw [if_neg h1, h2]
theorem q_bp {α β γ : Type} {o : Option (α × β)} {f : α → β → Option γ} {a : α} {b : β} (h : o = some (a, b)) : g_bp o f = f a b := by rw [h]; rfl
