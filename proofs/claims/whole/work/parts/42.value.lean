/-! VALUE: its three forms -/
def dg (x : Int32) : Int32 := if 10 ≤ x then (97 + x) - 10 else 48 + x
def hexL (xs : List Int32) : List Int32 := xs.flatMap fun (x : Int32) => [tC (dg (x >>> ((4 : Int32) &&& 31))), tC (dg (x &&& 15))]
theorem hexL_len (xs : List Int32) : (hexL xs).length = 2 * xs.length := by
  induction xs with
  | nil => rfl
  | cons x xs ih =>
    have : hexL (x :: xs) = [tC (dg (x >>> (4 &&& 31))), tC (dg (x &&& 15))] ++ hexL xs := rfl
    rw [this, List.length_append, ih]
    simp
    omega
theorem tx_init {z : gS} {q cap : Nat} (h : z.1 q = some (.inr (0, [.null, .int 0]))) (hq : q < z.2) (hc : cap ≤ 300) (n : Nat) : ∃ z1 : gS, fText_init n q (nI cap) z = some z1 ∧ tx z1 q z.2 cap [] ∧ z1.2 = z.2 + 1 ∧ ∀ b, b ≠ q → b < z.2 → z1.1 b = z.1 b := by
  unfold fText_init
  rw [if_neg (nI_pos (by omega)), q_bp (q_nI hc (by omega))]
  have h1 : (g_nw z (.inl (.char, cap, .inl (fun _ => 0)))).1 q = some (.inr (0, [.null, .int 0])) := by rw [q_nn hq]; exact h
  rw [q_pF h1 (Nat.le_of_ble_eq_true rfl), Option.bind_some]
  refine ⟨_, rfl, ⟨?_, by simp, by omega, fun _ => 0, ?_, ?_⟩, rfl, fun b hb1 hb2 => ?_⟩
  · rw [q_up]
    rfl
  · rw [q_un (by omega), q_nw]
  · intro j hj
    simp at hj
  · rw [q_un hb1, q_nn hb2]
theorem tx.ne {z : gS} {a ra cap : Nat} {xs : List Int32} (h : tx z a ra cap xs) : a ≠ ra := by
  obtain ⟨h1, -, -, f, h4, -⟩ := h
  intro e
  rw [e, h4] at h1
  cases h1
theorem tx.ne2 {z : gS} {a ra cap b rb cap2 : Nat} {xs ys : List Int32} (h : tx z a ra cap xs) (h2 : tx z b rb cap2 ys) : a ≠ rb := by
  obtain ⟨h1, -⟩ := h
  obtain ⟨-, -, -, f, h4, -⟩ := h2
  intro e
  rw [e, h4] at h1
  cases h1
theorem i_m1 (x : Int32) : x + (-1) = x - 1 := by
  apply Int32.toBitVec_inj.mp
  simp [BitVec.sub_eq_add_neg]
theorem vl_turned {a ra cap b rb cap2 : Nat} {ys : List Int32} (n : Nat) (hne : a ≠ b) (hne2 : ra ≠ rb) : ∀ (k j : Nat) (xs : List Int32) (z : gS), tx z a ra cap xs → tx z b rb cap2 ys → j ≤ ys.length → xs.length + j ≤ cap → j < k → ∃ z1 : gS, fValue_turned_L19 n k b a (nI j - 1) z = some (some a, z1) ∧ tx z1 a ra cap (xs ++ ((ys.take j).reverse).map tC) ∧ z1.2 = z.2 ∧ ∀ c, c ≠ a → c ≠ ra → z1.1 c = z.1 c := by
  intro k
  induction k with
  | zero => intro j xs z h1 h2 h3 h4 h5; omega
  | succ k ih =>
    intro j xs z h1 h2 h3 h4 h5
    have hl2 : ys.length ≤ 1000 := Nat.le_trans h2.2.1 h2.2.2.1
    rw [fValue_turned_L19]
    cases j with
    | zero =>
      rw [if_pos (by decide)]
      exact ⟨z, rfl, by simpa using h1, rfl, fun _ _ _ => rfl⟩
    | succ j =>
      have hy : j < ys.length := by omega
      rw [nI_pred, if_neg (nI_pos (by omega)), q_is h2.1, Option.bind_some, q_bp (tx_at h2 n (nI j)), q_is h1.1, Option.bind_some, tAt_nI (by omega), List.getElem?_eq_getElem hy, Option.getD_some]
      obtain ⟨z1, e1, t1, s1, o1⟩ := tx_add1 h1 (by omega) n ys[j]
      have t2 : tx z1 b rb cap2 ys := h2.keep (o1 b (Ne.symm hne) (h2.ne2 h1)) (o1 rb (Ne.symm (h1.ne2 h2)) (Ne.symm hne2))
      rw [q_bp e1, i_m1]
      obtain ⟨z2, e2, t3, s2, o2⟩ := ih j (xs ++ [tC ys[j]]) z1 t1 t2 (by omega) (by simp; omega) (by omega)
      refine ⟨z2, e2, ?_, s2.trans s1, fun c hc1 hc2 => (o2 c hc1 hc2).trans (o1 c hc1 hc2)⟩
      rw [List.take_succ_eq_append_getElem hy, List.reverse_append, List.map_append]
      rw [List.append_assoc] at t3
      exact t3
theorem vl_codes {a ra cap b rb cap2 : Nat} {ys : List Int32} (n : Nat) (hne : a ≠ b) (hne2 : ra ≠ rb) : ∀ (k i : Nat) (xs : List Int32) (z : gS), tx z a ra cap xs → tx z b rb cap2 ys → i ≤ ys.length → xs.length + 2 * (ys.length - i) ≤ cap → ys.length < i + k → ∃ z1 : gS, fValue_codesOf_L16 n k b a (nI i) z = some (some a, z1) ∧ tx z1 a ra cap (xs ++ hexL (ys.drop i)) ∧ z1.2 = z.2 ∧ ∀ c, c ≠ a → c ≠ ra → z1.1 c = z.1 c := by
  intro k
  induction k with
  | zero => intro i xs z h1 h2 h3 h4 h5; omega
  | succ k ih =>
    intro i xs z h1 h2 h3 h4 h5
    have hl2 : ys.length ≤ 1000 := Nat.le_trans h2.2.1 h2.2.2.1
    have hdig : ∀ (x : Int32) (w : gS), fValue_digit n x w = some (dg x, w) := by
      intro x w
      unfold fValue_digit dg
      by_cases q : 10 ≤ x
      · rw [if_pos q, if_pos q]
      · rw [if_neg q, if_neg q]
    rw [fValue_codesOf_L16, q_is h2.1, Option.bind_some, q_bp (tx_len h2 n)]
    by_cases hi : ys.length ≤ i
    · rw [if_pos ((nI_leI (by omega) (by omega)).mpr hi), List.drop_eq_nil_of_le hi]
      exact ⟨z, rfl, by simpa [hexL] using h1, rfl, fun _ _ _ => rfl⟩
    · have hy : i < ys.length := by omega
      rw [if_neg (fun q => hi ((nI_leI (by omega) (by omega)).mp q)), q_is h2.1, Option.bind_some, q_bp (tx_at h2 n (nI i)), q_bp (hdig _ _), q_is h1.1, Option.bind_some, tAt_nI (by omega), List.getElem?_eq_getElem hy, Option.getD_some]
      obtain ⟨z1, e1, t1, s1, o1⟩ := tx_add1 h1 (by omega) n (dg (ys[i] >>> (4 &&& 31)))
      have t2 : tx z1 b rb cap2 ys := h2.keep (o1 b (Ne.symm hne) (h2.ne2 h1)) (o1 rb (Ne.symm (h1.ne2 h2)) (Ne.symm hne2))
      rw [q_bp e1, q_is t2.1, Option.bind_some, q_bp (tx_at t2 n (nI i)), q_bp (hdig _ _), q_is t1.1, Option.bind_some, tAt_nI (by omega), List.getElem?_eq_getElem hy, Option.getD_some]
      obtain ⟨z2, e2, t3, s2, o2⟩ := tx_add1 t1 (by simp; omega) n (dg (ys[i] &&& 15))
      have t4 : tx z2 b rb cap2 ys := t2.keep (o2 b (Ne.symm hne) (t2.ne2 t1)) (o2 rb (Ne.symm (t1.ne2 t2)) (Ne.symm hne2))
      rw [q_bp e2, nI_1]
      obtain ⟨z3, e3, t5, s3, o3⟩ := ih (i + 1) (xs ++ [tC (dg (ys[i] >>> (4 &&& 31)))] ++ [tC (dg (ys[i] &&& 15))]) z2 t3 t4 (by omega) (by simp; omega) (by omega)
      refine ⟨z3, e3, ?_, s3.trans (s2.trans s1), fun c hc1 hc2 => (o3 c hc1 hc2).trans ((o2 c hc1 hc2).trans (o1 c hc1 hc2))⟩
      rw [List.drop_eq_getElem_cons hy]
      have : hexL (ys[i] :: ys.drop (i + 1)) = [tC (dg (ys[i] >>> (4 &&& 31))), tC (dg (ys[i] &&& 15))] ++ hexL (ys.drop (i + 1)) := rfl
      rw [this]
      rw [List.append_assoc, List.append_assoc] at t5
      exact t5
