/-! THE REFERENCE looks for forms in a text -/
def RV (iv : Nat → Int32) (fa : Nat → Nat → Int32) (sI : Nat → Nat → Int32) (sO : Nat → Nat → Option Nat) (sL : Nat → Nat → List Int32) (sN : Nat → Nat → Nat) : Prop := iv 1 = sI 7 0 ∧ iv 2 = nI (sN 0 0) ∧ iv 3 = nI (sN 0 3) ∧ (∀ v, v < sN 0 3 → fa 7 v = nI (sN 5 v) ∧ fa 8 v = nI (sL 0 v).length ∧ ∀ j, j < (sL 0 v).length → (sL 0 v)[j]? = some (fa 9 (12 * v + j))) ∧ ∀ s, s < sN 0 0 → fa 13 s = oI (sO 0 s) ∧ fa 14 s = oI (sO 1 s) ∧ fa 15 s = sI 3 s
theorem RS.rv {iv : Nat → Int32} {fa : Nat → Nat → Int32} {sI : Nat → Nat → Int32} {sO : Nat → Nat → Option Nat} {sL : Nat → Nat → List Int32} {sN : Nat → Nat → Nat} {au : List (Int32 × Int32 × Int32)} (h : RS iv fa sI sO sL sN au) : RV iv fa sI sO sL sN := by
  obtain ⟨⟨a1, a2, a3, -⟩, b1, b2, -⟩ := h
  exact ⟨a1, a2, a3, b1, fun s hs => ⟨(b2 s hs).2.2.2.1, (b2 s hs).2.2.2.2.1, (b2 s hs).2.2.2.2.2.1⟩⟩
theorem RV.keep {iv : Nat → Int32} {fa fa' : Nat → Nat → Int32} {sI : Nat → Nat → Int32} {sO : Nat → Nat → Option Nat} {sL : Nat → Nat → List Int32} {sN : Nat → Nat → Nat} (h : RV iv fa sI sO sL sN) (hk : ∀ q, q < 20 → fa' q = fa q) : RV iv fa' sI sO sL sN := by
  unfold RV
  rw [hk 7 (by omega), hk 8 (by omega), hk 9 (by omega), hk 13 (by omega), hk 14 (by omega), hk 15 (by omega)]
  exact h
/-- how far a form goes along -/
def cm : List Int32 → List Int32 → Nat
  | x :: f, y :: r => if y = x then cm f r + 1 else 0
  | _, _ => 0
theorem cm_nil (r : List Int32) : cm [] r = 0 := by cases r <;> rfl
theorem cm_nil2 (f : List Int32) : cm f [] = 0 := by cases f <;> rfl
theorem cm_ag : ∀ (f r : List Int32), cm f r ≤ f.length ∧ cm f r ≤ r.length ∧ (tAg f r = true ↔ cm f r = min f.length r.length) := by
  intro f
  induction f with
  | nil => intro r; rw [cm_nil]; simp [tAg]
  | cons x f ih =>
    intro r
    cases r with
    | nil => rw [cm_nil2]; simp [tAg]
    | cons y r =>
      obtain ⟨a, b, c⟩ := ih r
      by_cases q : y = x
      · subst q
        simp only [cm, if_true, tAg, List.length_cons, beq_self_eq_true, Bool.true_and, c]
        omega
      · have q' : ¬ x = y := fun w => q w.symm
        simp only [cm, if_neg q, tAg, List.length_cons]
        refine ⟨by omega, by omega, ?_⟩
        constructor
        · intro w
          simp [q'] at w
        · intro w
          omega
theorem cm_W {f r : List Int32} : cm f r = f.length ↔ fW f r = true := by
  obtain ⟨a, b, c⟩ := cm_ag f r
  rw [fW_iff, c]
  omega
theorem cm_Y {f r : List Int32} : (cm f r < f.length ∧ cm f r = r.length) ↔ fY f r = true := by
  obtain ⟨a, b, c⟩ := cm_ag f r
  rw [fY_iff, c]
  omega
theorem hex_half : ∀ k, k < 24 → nI k / 2 = nI (k / 2) ∧ ((nI k - nI k / 2 * 2 = 0) ↔ k % 2 = 0) := by decide +kernel
theorem hex_hi : ∀ j, j < 127 → tC (dg (nI j >>> ((4 : Int32) &&& 31))) = dg ((nI j >>> ((4 : Int32) &&& 31)) &&& 15) := by decide +kernel
theorem hex_lo : ∀ j, j < 127 → tC (dg (nI j &&& 15)) = dg ((nI j >>> ((0 : Int32) &&& 31)) &&& 15) := by decide +kernel
theorem hexL_get : ∀ (xs : List Int32) (k : Nat) (x : Int32), xs[k / 2]? = some x → (hexL xs)[k]? = some (if k % 2 = 0 then tC (dg (x >>> ((4 : Int32) &&& 31))) else tC (dg (x &&& 15))) := by
  intro xs
  induction xs with
  | nil => intro k x h; simp at h
  | cons y xs ih =>
    intro k x h
    have e : hexL (y :: xs) = tC (dg (y >>> ((4 : Int32) &&& 31))) :: tC (dg (y &&& 15)) :: hexL xs := rfl
    rw [e]
    match k with
    | 0 =>
      simp at h
      subst h
      rfl
    | 1 =>
      simp at h
      subst h
      rfl
    | k + 2 =>
      rw [show (k + 2) / 2 = k / 2 + 1 by omega, List.getElem?_cons_succ] at h
      rw [List.getElem?_cons_succ, List.getElem?_cons_succ, ih k x h, show (k + 2) % 2 = k % 2 by omega]
section RL
variable {z : gS} {bd : Nat → Nat} {iv : Nat → Int32} {fa : Nat → Nat → Int32} {sI : Nat → Nat → Int32} {sO : Nat → Nat → Option Nat} {sL : Nat → Nat → List Int32} {sN : Nat → Nat → Nat}
theorem r_counts (h : R2 z bd iv fa) (hv : RV iv fa sI sO sL sN) (hV : VS sI sO sL sN) (hnS : sN 0 0 ≤ 10) (hnV : sN 0 3 ≤ 24) (n : Nat) {v : Nat} (hlt : v < sN 0 3) : fRef_counts n (bd 0) (nI v) z = some (if cnt sI sO sN v = true then 1 else 0, z) := by
  obtain ⟨a1, a2, a3, a4, a5⟩ := hv
  obtain ⟨p1, p2, p3⟩ := a4 v hlt
  obtain ⟨-, -, -, d4, d5, -⟩ := hV
  have hs := (d4 v hlt).2.2.2
  obtain ⟨q1, q2, q3⟩ := a5 _ hs
  obtain ⟨-, r2, r3, -⟩ := d5 _ hs
  have e0 : nI v = oI (sO 0 (sN 5 v)) ↔ sO 0 (sN 5 v) = some v := oI_eq (by omega) (fun w hw => by have := (r2 w hw).1; omega)
  have e1 : nI v = oI (sO 1 (sN 5 v)) ↔ sO 1 (sN 5 v) = some v := oI_eq (by omega) (fun w hw => by have := (r3 w hw).1; omega)
  unfold fRef_counts
  rw [r_R h 7 rfl, Option.bind_some, Option.bind_some, r_ld h (k := 7) (ty := .int) (by unfold aK; omega) rfl (by show v < 24; omega), p1, Option.bind_some, r_R h 13 rfl, Option.bind_some, Option.bind_some, r_ld h (k := 13) (ty := .int) (by unfold aK; omega) rfl (by show _ < 10; omega), q1, Option.bind_some]
  by_cases c0 : sO 0 (sN 5 v) = some v
  · rw [if_pos (e0.mpr c0).symm, if_pos (cnt_iff.mpr (Or.inl c0))]
  · rw [if_neg (fun w => c0 (e0.mp w.symm)), r_R h 14 rfl, Option.bind_some, Option.bind_some, r_ld h (k := 14) (ty := .int) (by unfold aK; omega) rfl (by show _ < 10; omega), q2, Option.bind_some]
    by_cases c1 : sO 1 (sN 5 v) = some v
    · rw [if_pos (e1.mpr c1).symm, r_I h 1 rfl, Option.bind_some, r_R h 15 rfl, Option.bind_some, Option.bind_some, r_ld h (k := 15) (ty := .int) (by unfold aK; omega) rfl (by show _ < 10; omega), q3, Option.bind_some, a1]
      by_cases c2 : sI 3 (sN 5 v) ≤ sI 7 0
      · rw [if_pos c2, if_neg (fun w => (cnt_iff.mp w).elim c0 (fun y => y.2 c2))]
      · rw [if_neg c2, if_pos (cnt_iff.mpr (Or.inr ⟨c1, c2⟩))]
    · rw [if_neg (fun w => c1 (e1.mp w.symm)), if_neg (fun w => (cnt_iff.mp w).elim c0 (fun y => c1 y.1))]
theorem r_fl (h : R2 z bd iv fa) (hv : RV iv fa sI sO sL sN) (hnV : sN 0 3 ≤ 24) (n : Nat) {v f : Nat} (hlt : v < sN 0 3) (hf : f ≤ 2) : fRef_formLength n (bd 0) (nI v) (nI f) z = some (nI (fT (sL 0 v) f).length, z) := by
  obtain ⟨p1, p2, p3⟩ := hv.2.2.2.1 v hlt
  unfold fRef_formLength
  rw [fT_len _ _ hf]
  by_cases c : f = 2
  · subst c
    rw [if_pos (show nI 2 = 2 from rfl), r_R h 8 rfl, Option.bind_some, Option.bind_some, r_ld h (k := 8) (ty := .int) (by unfold aK; omega) rfl (by show v < 24; omega), p2, Option.bind_some, if_pos rfl, show (2 : Int32) = nI 2 from rfl, pk_mul]
  · rw [if_neg (show ¬ nI f = 2 from fun q => c ((nI_eq (b := 2) (by omega) (by omega)).mp q)), r_R h 8 rfl, Option.bind_some, Option.bind_some, r_ld h (k := 8) (ty := .int) (by unfold aK; omega) rfl (by show v < 24; omega), p2, Option.bind_some, if_neg c]
theorem r_dg (n : Nat) (x : Int32) (z : gS) : fRef_digit n x z = some (dg x, z) := by
  unfold fRef_digit dg
  by_cases c : 10 ≤ x
  · rw [if_pos c, if_pos c]
  · rw [if_neg c, if_neg c]
theorem r_fs (h : R2 z bd iv fa) (hv : RV iv fa sI sO sL sN) (hV : VS sI sO sL sN) (hnV : sN 0 3 ≤ 24) (n : Nat) {v f k : Nat} (hlt : v < sN 0 3) (hf : f ≤ 2) {x : Int32} (hk : (fT (sL 0 v) f)[k]? = some x) : fRef_formSign n (bd 0) (nI v) (nI f) (nI k) z = some (x, z) := by
  obtain ⟨p1, p2, p3⟩ := hv.2.2.2.1 v hlt
  obtain ⟨l1, l2, l3, -⟩ := hV.2.2.2.1 v hlt
  have hkl : k < (fT (sL 0 v) f).length := by
    apply Classical.byContradiction
    intro q
    rw [List.getElem?_eq_none (by omega)] at hk
    cases hk
  rw [fT_len _ _ hf] at hkl
  have em : (12 : Int32) * nI v = nI (12 * v) := by rw [show (12 : Int32) = nI 12 from rfl, pk_mul]
  unfold fRef_formSign
  have : f = 0 ∨ f = 1 ∨ f = 2 := by omega
  rcases this with rfl | rfl | rfl
  · rw [if_neg (by decide)] at hkl
    have e := p3 k hkl
    have ek : (fT (sL 0 v) 0)[k]? = (sL 0 v)[k]? := rfl
    rw [ek, e] at hk
    rw [if_neg (show ¬ nI 0 = 2 from by decide), r_R h 9 rfl, Option.bind_some, if_pos (show nI 0 = 0 from rfl), Option.bind_some, em, nI_add, r_ld h (k := 9) (ty := .int) (by unfold aK; omega) rfl (by show _ < 288; omega), Option.bind_some, Option.some.inj hk]
  · rw [if_neg (by decide)] at hkl
    have ek : (fT (sL 0 v) 1)[k]? = (sL 0 v)[(sL 0 v).length - 1 - k]? := List.getElem?_reverse hkl
    have e := p3 ((sL 0 v).length - 1 - k) (by omega)
    rw [ek, e] at hk
    rw [if_neg (show ¬ nI 1 = 2 from by decide), r_R h 9 rfl, Option.bind_some, if_neg (show ¬ nI 1 = 0 from by decide), r_R h 8 rfl, Option.bind_some, Option.bind_some, r_ld h (k := 8) (ty := .int) (by unfold aK; omega) rfl (by show v < 24; omega), p2, Option.bind_some, Option.bind_some, em, show (1 : Int32) = nI 1 from rfl, pk_sub (by omega), pk_sub (by omega), nI_add, r_ld h (k := 9) (ty := .int) (by unfold aK; omega) rfl (by show _ < 288; omega), Option.bind_some, Option.some.inj hk]
  · rw [if_pos rfl] at hkl
    have e := p3 (k / 2) (by omega)
    have ek : (fT (sL 0 v) 2)[k]? = _ := hexL_get (sL 0 v) k _ e
    obtain ⟨h1, h2⟩ := hex_half k (by omega)
    obtain ⟨j, j1, j2, j3⟩ := l3 _ (List.mem_of_getElem? e)
    rw [ek] at hk
    rw [if_pos (show nI 2 = 2 from rfl), r_R h 9 rfl, Option.bind_some, Option.bind_some, em, h1, nI_add, r_ld h (k := 9) (ty := .int) (by unfold aK; omega) rfl (by show _ < 288; omega), Option.bind_some]
    rw [h1] at h2
    by_cases c : k % 2 = 0
    · rw [if_pos c, j3, hex_hi j (by omega)] at hk
      rw [if_pos (h2.mpr c), j3, q_bp (r_dg n _ z), Option.some.inj hk]
    · rw [if_neg c, j3, hex_lo j (by omega)] at hk
      rw [if_neg (fun q => c (h2.mp q)), j3, q_bp (r_dg n _ z), Option.some.inj hk]
theorem r_common (h : R2 z bd iv fa) (hv : RV iv fa sI sO sL sN) (hV : VS sI sO sL sN) (hnV : sN 0 3 ≤ 24) (n : Nat) {v f w fr : Nat} (hlt : v < sN 0 3) (hf : f ≤ 2) (hw : aK w) (hty : aT w = .int) {r : List Int32} (hr : ∀ j, j < r.length → r[j]? = some (fa w (fr + j))) (hfr : fr + r.length ≤ aN w) : ∀ (k m : Nat), m ≤ (fT (sL 0 v) f).length → m ≤ r.length → (fT (sL 0 v) f).length < m + k → fRef_common_L3 n k (bd 0) (bd w) (nI fr) (nI (fr + r.length)) (nI v) (nI f) (nI m) z = some (nI (m + cm ((fT (sL 0 v) f).drop m) (r.drop m)), z) := by
  have hle := aN_le w
  have hll : (fT (sL 0 v) f).length ≤ 24 := by
    have := (hV.2.2.2.1 v hlt).2.1
    rw [fT_len _ _ hf]
    split <;> omega
  intro k
  induction k with
  | zero => intro m q1 q2 q3; omega
  | succ k ih =>
    intro m q1 q2 q3
    rw [fRef_common_L3, r_is h, Option.bind_some, q_bp (r_fl h hv hnV n hlt hf)]
    by_cases c0 : (fT (sL 0 v) f).length ≤ m
    · rw [if_pos ((nI_leI (by omega) (by omega)).mpr c0), List.drop_eq_nil_of_le c0, cm_nil]
      rfl
    · rw [if_neg (fun q => c0 ((nI_leI (by omega) (by omega)).mp q)), nI_add]
      by_cases c1 : r.length ≤ m
      · rw [if_pos ((nI_leI (by omega) (by omega)).mpr (by omega)), List.drop_eq_nil_of_le (as := r) c1, cm_nil2]
        rfl
      · have g1 : m < (fT (sL 0 v) f).length := by omega
        have g2 : m < r.length := by omega
        have x1 : (fT (sL 0 v) f)[m]? = some (fT (sL 0 v) f)[m] := List.getElem?_eq_getElem g1
        have x2 := hr m g2
        rw [List.getElem?_eq_getElem g2] at x2
        rw [if_neg (fun q => c1 (by have := (nI_leI (by omega) (by omega)).mp q; omega)), r_ld h hw hty (by omega), Option.bind_some, r_is h, Option.bind_some, q_bp (r_fs h hv hV hnV n hlt hf x1), List.drop_eq_getElem_cons g1, List.drop_eq_getElem_cons g2, cm, Option.some.inj x2]
        by_cases c2 : fa w (fr + m) = (fT (sL 0 v) f)[m]
        · rw [if_pos c2, if_pos c2, nI_1, ih (m + 1) (by omega) (by omega) (by omega)]
          congr 3
          omega
        · rw [if_neg c2, if_neg c2]
          rfl
theorem r_cm (h : R2 z bd iv fa) (hv : RV iv fa sI sO sL sN) (hV : VS sI sO sL sN) (hnV : sN 0 3 ≤ 24) (n : Nat) (hn : 1000 < n) {v f w fr : Nat} (hlt : v < sN 0 3) (hf : f ≤ 2) (hw : aK w) (hty : aT w = .int) {r : List Int32} (hr : ∀ j, j < r.length → r[j]? = some (fa w (fr + j))) (hfr : fr + r.length ≤ aN w) : fRef_common n (bd 0) (bd w) (nI fr) (nI (fr + r.length)) (nI v) (nI f) z = some (nI (cm (fT (sL 0 v) f) r), z) := by
  have hll : (fT (sL 0 v) f).length ≤ 24 := by
    have := (hV.2.2.2.1 v hlt).2.1
    rw [fT_len _ _ hf]
    split <;> omega
  have := r_common h hv hV hnV n hlt hf hw hty hr hfr n 0 (by omega) (by omega) (by omega)
  rw [List.drop_zero, List.drop_zero, Nat.zero_add, nI_0] at this
  exact this
end RL
