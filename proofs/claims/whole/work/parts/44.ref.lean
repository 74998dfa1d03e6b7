/-! THE REFERENCE: its object at bd 0, its arrays at bd k (k = the field's number); iv its ints, fa its arrays' contents -/
def aK (k : Nat) : Prop := 7 ≤ k ∧ k ≤ 32 ∧ k ≠ 18
def aT (k : Nat) : FieldType := if k = 16 ∨ k = 26 then .boolean else .int
def aN (k : Nat) : Nat := if k ≤ 8 then 24 else if k = 9 then 288 else if k ≤ 16 then 10 else if k = 17 then 300 else if k = 19 then 120 else if k = 20 ∨ k = 23 then 3600 else if k ≤ 26 then 12 else if k ≤ 29 then 200 else 20
def rF (bd : Nat → Nat) (iv : Nat → Int32) : List Value := [.int (iv 0), .int (iv 1), .int (iv 2), .int (iv 3), .int (iv 4), .int (iv 5), .int (iv 6), .ref (bd 7), .ref (bd 8), .ref (bd 9), .ref (bd 10), .ref (bd 11), .ref (bd 12), .ref (bd 13), .ref (bd 14), .ref (bd 15), .ref (bd 16), .ref (bd 17), .int (iv 18), .ref (bd 19), .ref (bd 20), .ref (bd 21), .ref (bd 22), .ref (bd 23), .ref (bd 24), .ref (bd 25), .ref (bd 26), .ref (bd 27), .ref (bd 28), .ref (bd 29), .ref (bd 30), .ref (bd 31), .ref (bd 32), .int (iv 33), .int (iv 34), .int (iv 35)]
def R2 (z : gS) (bd : Nat → Nat) (iv : Nat → Int32) (fa : Nat → Nat → Int32) : Prop := z.1 (bd 0) = some (.inr (9, rF bd iv)) ∧ (∀ k, aK k → z.1 (bd k) = some (.inl (aT k, aN k, .inl (fa k)))) ∧ (∀ j k, aK j → aK k → bd j = bd k → j = k) ∧ ∀ k, (k = 0 ∨ aK k) → bd k < z.2
theorem R2.sz {G : Nat → Option gE} {s1 s2 : Nat} {bd : Nat → Nat} {iv : Nat → Int32} {fa : Nat → Nat → Int32} (h : R2 (G, s1) bd iv fa) (hs : s1 ≤ s2) : R2 (G, s2) bd iv fa := ⟨h.1, h.2.1, h.2.2.1, fun k hk => Nat.lt_of_lt_of_le (h.2.2.2 k hk) hs⟩
theorem aN_le (k : Nat) : aN k ≤ 3600 := by
  unfold aN
  repeat' split
  all_goals omega
theorem r_is {z : gS} {bd : Nat → Nat} {iv : Nat → Int32} {fa : Nat → Nat → Int32} (h : R2 z bd iv fa) : g_is z (bd 0) 9 = some () := q_is h.1
theorem r_I {z : gS} {bd : Nat → Nat} {iv : Nat → Int32} {fa : Nat → Nat → Int32} (h : R2 z bd iv fa) (k : Nat) (hk : (rF bd iv)[k]? = some (.int (iv k))) : g_fI z (bd 0) 9 k = some (iv k) := q_fI h.1 hk
theorem r_R {z : gS} {bd : Nat → Nat} {iv : Nat → Int32} {fa : Nat → Nat → Int32} (h : R2 z bd iv fa) (k : Nat) (hk : (rF bd iv)[k]? = some (.ref (bd k))) : g_fR z (bd 0) 9 k = some (some (bd k)) := q_fR h.1 (r := some (bd k)) hk
theorem r_ld {z : gS} {bd : Nat → Nat} {iv : Nat → Int32} {fa : Nat → Nat → Int32} (h : R2 z bd iv fa) {k : Nat} (hk : aK k) {ty : FieldType} (ht : aT k = ty) {j : Nat} (hj : j < aN k) : g_ldI z ty (bd k) (nI j) = some (fa k j) := by
  have h1 := h.2.1 k hk
  rw [ht] at h1
  exact q_ldI h1 hj (by have := aN_le k; omega)
theorem r_st {z : gS} {bd : Nat → Nat} {iv : Nat → Int32} {fa : Nat → Nat → Int32} (h : R2 z bd iv fa) {k : Nat} (hk : aK k) {ty : FieldType} (ht : aT k = ty) {j : Nat} (hj : j < aN k) (x : Int32) : ∃ z1 : gS, g_stI z ty (bd k) (nI j) x = some z1 ∧ R2 z1 bd iv (ru fa k j x) ∧ z1.2 = z.2 := by
  have h1 := h.2.1 k hk
  have h0 : bd 0 ≠ bd k := fun e => by have := h.1; rw [e, h1] at this; cases this
  rw [ht] at h1
  refine ⟨_, q_stI h1 hj (by have := aN_le k; omega), ⟨?_, fun k' hk' => ?_, h.2.2.1, h.2.2.2⟩, rfl⟩
  · rw [q_un h0]
    exact h.1
  · by_cases e : k' = k
    · subst e
      rw [q_up, ht]
      congr 5
      funext i
      by_cases hi : i = j
      · subst hi
        simp [ru, upd]
      · simp [ru, upd, hi]
    · rw [q_un (fun q => e (h.2.2.1 k' k hk' hk q)), h.2.1 k' hk']
      congr 5
      funext i
      simp [ru, e]
theorem r_pI {z : gS} {bd : Nat → Nat} {iv : Nat → Int32} {fa : Nat → Nat → Int32} (h : R2 z bd iv fa) (k : Nat) (x : Int32) (hk : (rF bd iv).set k (.int x) = rF bd (up1 iv k x)) (hl : k < 36) : ∃ z1 : gS, g_pF z (bd 0) 9 k (.int x) = some z1 ∧ R2 z1 bd (up1 iv k x) fa ∧ z1.2 = z.2 := by
  have h0 : ∀ k', aK k' → bd k' ≠ bd 0 := fun k' hk' e => by have := h.1; rw [← e, h.2.1 k' hk'] at this; cases this
  refine ⟨_, q_pF h.1 (by show k < 36; exact hl), ⟨?_, fun k' hk' => ?_, h.2.2.1, h.2.2.2⟩, rfl⟩
  · rw [q_up, hk]
  · rw [q_un (h0 k' hk')]
    exact h.2.1 k' hk'
theorem r_p0 {z : gS} {bd : Nat → Nat} {iv : Nat → Int32} {fa : Nat → Nat → Int32} (h : R2 z bd iv fa) (x : Int32) : ∃ z1 : gS, g_pF z (bd 0) 9 0 (.int x) = some z1 ∧ R2 z1 bd (up1 iv 0 x) fa ∧ z1.2 = z.2 := r_pI h 0 x (by simp [rF, up1]) (by omega)
theorem r_p1 {z : gS} {bd : Nat → Nat} {iv : Nat → Int32} {fa : Nat → Nat → Int32} (h : R2 z bd iv fa) (x : Int32) : ∃ z1 : gS, g_pF z (bd 0) 9 1 (.int x) = some z1 ∧ R2 z1 bd (up1 iv 1 x) fa ∧ z1.2 = z.2 := r_pI h 1 x (by simp [rF, up1]) (by omega)
theorem r_p2 {z : gS} {bd : Nat → Nat} {iv : Nat → Int32} {fa : Nat → Nat → Int32} (h : R2 z bd iv fa) (x : Int32) : ∃ z1 : gS, g_pF z (bd 0) 9 2 (.int x) = some z1 ∧ R2 z1 bd (up1 iv 2 x) fa ∧ z1.2 = z.2 := r_pI h 2 x (by simp [rF, up1]) (by omega)
theorem r_p3 {z : gS} {bd : Nat → Nat} {iv : Nat → Int32} {fa : Nat → Nat → Int32} (h : R2 z bd iv fa) (x : Int32) : ∃ z1 : gS, g_pF z (bd 0) 9 3 (.int x) = some z1 ∧ R2 z1 bd (up1 iv 3 x) fa ∧ z1.2 = z.2 := r_pI h 3 x (by simp [rF, up1]) (by omega)
theorem r_p4 {z : gS} {bd : Nat → Nat} {iv : Nat → Int32} {fa : Nat → Nat → Int32} (h : R2 z bd iv fa) (x : Int32) : ∃ z1 : gS, g_pF z (bd 0) 9 4 (.int x) = some z1 ∧ R2 z1 bd (up1 iv 4 x) fa ∧ z1.2 = z.2 := r_pI h 4 x (by simp [rF, up1]) (by omega)
theorem r_p5 {z : gS} {bd : Nat → Nat} {iv : Nat → Int32} {fa : Nat → Nat → Int32} (h : R2 z bd iv fa) (x : Int32) : ∃ z1 : gS, g_pF z (bd 0) 9 5 (.int x) = some z1 ∧ R2 z1 bd (up1 iv 5 x) fa ∧ z1.2 = z.2 := r_pI h 5 x (by simp [rF, up1]) (by omega)
theorem r_p6 {z : gS} {bd : Nat → Nat} {iv : Nat → Int32} {fa : Nat → Nat → Int32} (h : R2 z bd iv fa) (x : Int32) : ∃ z1 : gS, g_pF z (bd 0) 9 6 (.int x) = some z1 ∧ R2 z1 bd (up1 iv 6 x) fa ∧ z1.2 = z.2 := r_pI h 6 x (by simp [rF, up1]) (by omega)
theorem r_p18 {z : gS} {bd : Nat → Nat} {iv : Nat → Int32} {fa : Nat → Nat → Int32} (h : R2 z bd iv fa) (x : Int32) : ∃ z1 : gS, g_pF z (bd 0) 9 18 (.int x) = some z1 ∧ R2 z1 bd (up1 iv 18 x) fa ∧ z1.2 = z.2 := r_pI h 18 x (by simp [rF, up1]) (by omega)
theorem r_p33 {z : gS} {bd : Nat → Nat} {iv : Nat → Int32} {fa : Nat → Nat → Int32} (h : R2 z bd iv fa) (x : Int32) : ∃ z1 : gS, g_pF z (bd 0) 9 33 (.int x) = some z1 ∧ R2 z1 bd (up1 iv 33 x) fa ∧ z1.2 = z.2 := r_pI h 33 x (by simp [rF, up1]) (by omega)
theorem r_p34 {z : gS} {bd : Nat → Nat} {iv : Nat → Int32} {fa : Nat → Nat → Int32} (h : R2 z bd iv fa) (x : Int32) : ∃ z1 : gS, g_pF z (bd 0) 9 34 (.int x) = some z1 ∧ R2 z1 bd (up1 iv 34 x) fa ∧ z1.2 = z.2 := r_pI h 34 x (by simp [rF, up1]) (by omega)
theorem r_p35 {z : gS} {bd : Nat → Nat} {iv : Nat → Int32} {fa : Nat → Nat → Int32} (h : R2 z bd iv fa) (x : Int32) : ∃ z1 : gS, g_pF z (bd 0) 9 35 (.int x) = some z1 ∧ R2 z1 bd (up1 iv 35 x) fa ∧ z1.2 = z.2 := r_pI h 35 x (by simp [rF, up1]) (by omega)
