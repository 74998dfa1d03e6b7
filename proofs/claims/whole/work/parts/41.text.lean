/-! TEXT: a row of characters; tx z a ra cap xs: the Text at a, its row at ra with room cap, holds xs -/
def tx (z : gS) (a ra cap : Nat) (xs : List Int32) : Prop := z.1 a = some (.inr (0, [.ref ra, .int (nI xs.length)])) ∧ xs.length ≤ cap ∧ cap ≤ 1000 ∧ ∃ f : Nat → Int32, z.1 ra = some (.inl (.char, cap, .inl f)) ∧ ∀ j, j < xs.length → xs[j]? = some (f j)
def tAt (xs : List Int32) (i : Int32) : Int32 := if i < 0 then -1 else (xs[i.toNatClampNeg]?).getD (-1)
/-- a character as a row keeps it -/
def tC (x : Int32) : Int32 := vp_nar .char ((x.toUInt32 % 65536).toInt32)
theorem tx.keep {z z1 : gS} {a ra cap : Nat} {xs : List Int32} (h : tx z a ra cap xs) (h1 : z1.1 a = z.1 a) (h2 : z1.1 ra = z.1 ra) : tx z1 a ra cap xs := by
  obtain ⟨g1, g2, g3, f, g4, g5⟩ := h
  exact ⟨by rw [h1]; exact g1, g2, g3, f, by rw [h2]; exact g4, g5⟩
theorem tAt_nI {xs : List Int32} {j : Nat} (hj : j < 2 ^ 31) : tAt xs (nI j) = (xs[j]?).getD (-1) := by
  unfold tAt
  rw [if_neg (nI_pos hj), nI_clamp hj]
theorem tx_len {z : gS} {a ra cap : Nat} {xs : List Int32} (h : tx z a ra cap xs) (n : Nat) : fText_length n a z = some (nI xs.length, z) := by
  unfold fText_length
  rw [q_fI h.1 (k := 1) rfl]
  rfl
theorem tx_at {z : gS} {a ra cap : Nat} {xs : List Int32} (h : tx z a ra cap xs) (n : Nat) (i : Int32) : fText_at n a i z = some (tAt xs i, z) := by
  obtain ⟨h1, h2, h3, f, h4, h5⟩ := h
  unfold fText_at tAt
  by_cases hi : i < 0
  · rw [if_pos hi, if_pos hi]
  · obtain ⟨j, hj, rfl⟩ := nI_of hi
    rw [if_neg hi, if_neg hi, q_fI h1 (k := 1) rfl, Option.bind_some, nI_clamp hj]
    by_cases hl : xs.length ≤ j
    · rw [if_pos ((nI_leI (by omega) hj).mpr hl), List.getElem?_eq_none hl]
      rfl
    · rw [if_neg (fun h => hl ((nI_leI (by omega) hj).mp h)), q_fR h1 (k := 0) (r := some ra) rfl, Option.bind_some, Option.bind_some, q_len h4, Option.bind_some, if_pos ((nI_ltI hj (by omega)).mpr (by omega)), Option.bind_some, Option.bind_some, q_ldI h4 (by omega) (by omega), Option.bind_some, h5 j (by omega)]
      rfl
theorem tx_add0 {z : gS} {a ra cap : Nat} {xs : List Int32} (h : tx z a ra cap xs) (hc : cap ≤ xs.length) (n : Nat) (x : Int32) : fText_add n a x z = some (0, z) := by
  obtain ⟨h1, h2, h3, f, h4, h5⟩ := h
  unfold fText_add
  rw [q_fI h1 (k := 1) rfl, Option.bind_some, q_fR h1 (k := 0) (r := some ra) rfl, Option.bind_some, Option.bind_some, q_len h4, Option.bind_some, if_neg (fun h => absurd ((nI_ltI (by omega) (by omega)).mp h) (by omega))]
theorem tx_add1 {z : gS} {a ra cap : Nat} {xs : List Int32} (h : tx z a ra cap xs) (hc : xs.length < cap) (n : Nat) (x : Int32) : ∃ z1 : gS, fText_add n a x z = some (1, z1) ∧ tx z1 a ra cap (xs ++ [tC x]) ∧ z1.2 = z.2 ∧ ∀ b, b ≠ a → b ≠ ra → z1.1 b = z.1 b := by
  obtain ⟨h1, h2, h3, f, h4, h5⟩ := h
  have hne : a ≠ ra := fun e => by rw [e, h4] at h1; cases h1
  unfold fText_add
  rw [q_fI h1 (k := 1) rfl, Option.bind_some, q_fR h1 (k := 0) (r := some ra) rfl, Option.bind_some, Option.bind_some, q_len h4, Option.bind_some, if_pos ((nI_ltI (by omega) (by simp; omega)).mpr (by simpa using hc)), Option.bind_some, Option.bind_some, Option.bind_some, q_stI h4 hc (by omega), Option.bind_some]
  have h6 : (g_up z ra (.inl (.char, cap, .inl (upd f xs.length (vp_nar .char ((x.toUInt32 % 65536).toInt32)))))).1 a = some (.inr (0, [.ref ra, .int (nI xs.length)])) := by rw [q_un hne]; exact h1
  rw [q_fI h6 (k := 1) rfl, Option.bind_some, q_pF h6 (Nat.le_of_ble_eq_true rfl), Option.bind_some]
  refine ⟨_, rfl, ⟨?_, ?_, h3, upd f xs.length (tC x), ?_, ?_⟩, rfl, fun b hb1 hb2 => by rw [q_un hb1, q_un hb2]⟩
  · rw [q_up]
    simp [nI_1]
  · simp; omega
  · rw [q_un (Ne.symm hne), q_up]
    rfl
  · intro j hj
    simp at hj
    by_cases hjl : j = xs.length
    · subst hjl
      simp [upd]
    · have hj2 : j < xs.length := by omega
      rw [List.getElem?_append_left hj2, h5 j hj2]
      simp [upd, hjl]
theorem tx_has {z : gS} {a ra cap : Nat} {xs : List Int32} (h : tx z a ra cap xs) (n : Nat) (c : Int32) : ∀ (k i : Nat), i ≤ xs.length → xs.length < i + k → fText_has_L2 n k a c (nI i) z = some (if c ∈ xs.drop i then 1 else 0, z) := by
  intro k
  induction k with
  | zero => intro i h1 h2; omega
  | succ k ih =>
    intro i h1 h2
    have hl : xs.length ≤ 1000 := Nat.le_trans h.2.1 h.2.2.1
    rw [fText_has_L2, q_fI h.1 (k := 1) rfl, Option.bind_some]
    by_cases hi : xs.length ≤ i
    · rw [if_pos ((nI_leI (by omega) (by omega)).mpr hi), List.drop_eq_nil_of_le hi]
      simp
    · have hi2 : i < xs.length := by omega
      rw [if_neg (fun q => hi ((nI_leI (by omega) (by omega)).mp q)), q_is h.1, Option.bind_some, q_bp (tx_at h n (nI i)), tAt_nI (by omega), List.drop_eq_getElem_cons hi2, List.getElem?_eq_getElem hi2]
      by_cases hc : xs[i] = c
      · simp [hc]
      · rw [if_neg (by simpa using hc), nI_1, ih (i + 1) (by omega) (by omega)]
        have e : (c ∈ xs[i] :: xs.drop (i + 1)) ↔ c ∈ xs.drop (i + 1) := by
          rw [List.mem_cons]
          exact ⟨fun h => h.resolve_left (fun q => hc q.symm), Or.inr⟩
        simp only [e]
/-- two rows from a place on are the same as far as both go -/
def tAg (xs ys : List Int32) : Bool := match xs, ys with
  | x :: xs, y :: ys => x == y && tAg xs ys
  | _, _ => true
theorem tAg_nil_r (xs : List Int32) : tAg xs [] = true := by cases xs <;> rfl
theorem tx_ag {z : gS} {a ra cap b rb cap2 : Nat} {xs ys : List Int32} (h : tx z a ra cap xs) (h2 : tx z b rb cap2 ys) (n f : Nat) (hf : f ≤ ys.length) : ∀ (k i : Nat), i ≤ xs.length → i ≤ ys.length - f → xs.length < i + k → fText_agrees_L17 n k a b (nI f) (nI (min xs.length (ys.length - f))) (nI i) z = some (if tAg (xs.drop i) (ys.drop (f + i)) then 1 else 0, z) := by
  have hl : xs.length ≤ 1000 := Nat.le_trans h.2.1 h.2.2.1
  have hl2 : ys.length ≤ 1000 := Nat.le_trans h2.2.1 h2.2.2.1
  intro k
  induction k with
  | zero => intro i h1 h3 h4; omega
  | succ k ih =>
    intro i h1 h3 h4
    rw [fText_agrees_L17]
    by_cases hi : min xs.length (ys.length - f) ≤ i
    · rw [if_pos ((nI_leI (by omega) (by omega)).mpr hi)]
      have : tAg (xs.drop i) (ys.drop (f + i)) = true := by
        by_cases q : xs.length ≤ i
        · rw [List.drop_eq_nil_of_le q]; rfl
        · rw [List.drop_eq_nil_of_le (as := ys) (by omega)]; exact tAg_nil_r _
      rw [this]; rfl
    · have hx : i < xs.length := by omega
      have hy : f + i < ys.length := by omega
      rw [if_neg (fun q => hi ((nI_leI (by omega) (by omega)).mp q)), q_is h.1, Option.bind_some, q_bp (tx_at h n (nI i)), q_is h2.1, Option.bind_some, nI_add, q_bp (tx_at h2 n (nI (f + i))), tAt_nI (by omega), tAt_nI (by omega), List.getElem?_eq_getElem hx, List.getElem?_eq_getElem hy, List.drop_eq_getElem_cons hx, List.drop_eq_getElem_cons hy]
      by_cases hc : xs[i] = ys[f + i]
      · rw [if_pos (by simpa using hc), nI_1, ih (i + 1) (by omega) (by omega) (by omega)]
        simp [tAg, hc, Nat.add_assoc]
      · rw [if_neg (by simpa using hc)]
        simp [tAg, hc]
theorem tx_agrees {z : gS} {a ra cap b rb cap2 : Nat} {xs ys : List Int32} (h : tx z a ra cap xs) (h2 : tx z b rb cap2 ys) (n f : Nat) (hf : f ≤ ys.length) (hn : 1000 < n) : fText_agrees n a b (nI f) z = some (if tAg xs (ys.drop f) then 1 else 0, z) := by
  have hl : xs.length ≤ 1000 := Nat.le_trans h.2.1 h.2.2.1
  have hl2 : ys.length ≤ 1000 := Nat.le_trans h2.2.1 h2.2.2.1
  unfold fText_agrees
  rw [q_fI h.1 (k := 1) rfl, Option.bind_some, q_fI h2.1 (k := 1) rfl, Option.bind_some, pk_sub hf]
  have e : (if nI (ys.length - f) < nI xs.length then nI (ys.length - f) else nI xs.length) = nI (min xs.length (ys.length - f)) := by
    by_cases q : ys.length - f < xs.length
    · rw [if_pos ((nI_ltI (by omega) (by omega)).mpr q), show min xs.length (ys.length - f) = ys.length - f by omega]
    · rw [if_neg (fun w => q ((nI_ltI (by omega) (by omega)).mp w)), show min xs.length (ys.length - f) = xs.length by omega]
  rw [e]
  have := tx_ag h h2 n f hf n 0 (by omega) (by omega) (by omega)
  simpa [nI_0] using this
theorem tx_like {z : gS} {a ra cap b rb cap2 : Nat} {xs ys : List Int32} (h : tx z a ra cap xs) (h2 : tx z b rb cap2 ys) (n : Nat) (hn : 1000 < n) : fText_isLike n a b z = some (if xs = ys then 1 else 0, z) := by
  have hl : xs.length ≤ 1000 := Nat.le_trans h.2.1 h.2.2.1
  have hl2 : ys.length ≤ 1000 := Nat.le_trans h2.2.1 h2.2.2.1
  have hag : ∀ (xs ys : List Int32), xs.length = ys.length → (tAg xs ys = true ↔ xs = ys) := by
    intro xs
    induction xs with
    | nil => intro ys hy; cases ys with
      | nil => simp [tAg]
      | cons y ys => simp at hy
    | cons x xs ih => intro ys hy; cases ys with
      | nil => simp at hy
      | cons y ys => simp at hy; simp [tAg, ih ys hy]
  unfold fText_isLike
  rw [q_fI h.1 (k := 1) rfl, Option.bind_some, q_fI h2.1 (k := 1) rfl, Option.bind_some]
  by_cases hL : xs.length = ys.length
  · have e0 := tx_agrees h h2 n 0 (by omega) hn
    rw [nI_0] at e0
    rw [if_pos (by rw [hL]), q_is h.1, Option.bind_some, q_bp e0]
    simp only [List.drop_zero]
    by_cases hx : xs = ys
    · subst hx
      rw [(hag xs xs rfl).mpr rfl]
      simp
    · have : ¬ tAg xs ys = true := fun q => hx ((hag xs ys hL).mp q)
      simp [this, hx]
  · rw [if_neg (fun q => hL ((nI_eq (by omega) (by omega)).mp q)), if_neg (fun q => hL (by rw [q]))]
theorem tx_addAll {a ra cap b rb cap2 : Nat} {ys : List Int32} (n : Nat) (hne : a ≠ b) (hne2 : ra ≠ rb) : ∀ (k i : Nat) (xs : List Int32) (z : gS), tx z a ra cap xs → tx z b rb cap2 ys → i ≤ ys.length → xs.length + (ys.length - i) ≤ cap → ys.length < i + k → ∃ z1 : gS, fText_addAll_L2 n k a b (nI i) z = some z1 ∧ tx z1 a ra cap (xs ++ (ys.drop i).map tC) ∧ z1.2 = z.2 ∧ ∀ c, c ≠ a → c ≠ ra → z1.1 c = z.1 c := by
  intro k
  induction k with
  | zero => intro i xs z h1 h2 h3 h4 h5; omega
  | succ k ih =>
    intro i xs z h1 h2 h3 h4 h5
    have hl2 : ys.length ≤ 1000 := Nat.le_trans h2.2.1 h2.2.2.1
    rw [fText_addAll_L2, q_fI h2.1 (k := 1) rfl, Option.bind_some]
    by_cases hi : ys.length ≤ i
    · rw [if_pos ((nI_leI (by omega) (by omega)).mpr hi), List.drop_eq_nil_of_le hi]
      exact ⟨z, rfl, by simpa using h1, rfl, fun _ _ _ => rfl⟩
    · have hy : i < ys.length := by omega
      rw [if_neg (fun q => hi ((nI_leI (by omega) (by omega)).mp q)), q_is h2.1, Option.bind_some, q_bp (tx_at h2 n (nI i)), q_is h1.1, Option.bind_some, tAt_nI (by omega), List.getElem?_eq_getElem hy, Option.getD_some]
      obtain ⟨z1, e1, t1, s1, o1⟩ := tx_add1 h1 (by omega) n ys[i]
      have hab : b ≠ ra := by
        obtain ⟨g1, -, -, f, g4, -⟩ := h1
        intro q; rw [q] at h2; rw [h2.1] at g4; cases g4
      have hba : rb ≠ a := by
        obtain ⟨g1, -, -, f, g4, -⟩ := h2
        intro q; rw [q] at g4; rw [h1.1] at g4; cases g4
      have t2 : tx z1 b rb cap2 ys := h2.keep (o1 b (Ne.symm hne) hab) (o1 rb hba (Ne.symm hne2))
      rw [q_bp e1, nI_1]
      obtain ⟨z2, e2, t3, s2, o2⟩ := ih (i + 1) (xs ++ [tC ys[i]]) z1 t1 t2 (by omega) (by simp; omega) (by omega)
      refine ⟨z2, e2, ?_, s2.trans s1, fun c hc1 hc2 => (o2 c hc1 hc2).trans (o1 c hc1 hc2)⟩
      rw [List.drop_eq_getElem_cons hy, List.map_cons]
      rw [List.append_assoc] at t3
      exact t3
