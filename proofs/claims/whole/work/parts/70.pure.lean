/-! FORMS, as lists; covering, as a function on lists -/
def fT (xs : List Int32) (f : Nat) : List Int32 := if f = 0 then xs else if f = 1 then xs.reverse else hexL xs
theorem fT_len (xs : List Int32) (f : Nat) (hf : f ≤ 2) : (fT xs f).length = if f = 2 then 2 * xs.length else xs.length := by
  have : f = 0 ∨ f = 1 ∨ f = 2 := by omega
  rcases this with rfl | rfl | rfl
  · rfl
  · simp [fT]
  · simp [fT, hexL_len]
theorem tAg_app : ∀ (f r t : List Int32), f.length ≤ r.length → tAg f (r ++ t) = tAg f r := by
  intro f
  induction f with
  | nil => intro r t _; simp [tAg]
  | cons x f ih =>
    intro r t h
    cases r with
    | nil => simp at h
    | cons y r =>
      simp at h
      simp [tAg, ih r t h]
theorem tAg_pre : ∀ (f r t : List Int32), tAg f (r ++ t) = true → tAg f r = true := by
  intro f
  induction f with
  | nil => intro r t _; simp [tAg]
  | cons x f ih =>
    intro r t h
    cases r with
    | nil => simp [tAg]
    | cons y r =>
      simp [tAg] at h ⊢
      exact ⟨h.1, ih r t h.2⟩
/-- a form is there whole; it may come yet -/
def fW (f r : List Int32) : Bool := decide (f.length ≤ r.length) && tAg f r
def fY (f r : List Int32) : Bool := decide (r.length < f.length) && tAg f r
theorem fW_iff {f r : List Int32} : fW f r = true ↔ f.length ≤ r.length ∧ tAg f r = true := by simp [fW]
theorem fY_iff {f r : List Int32} : fY f r = true ↔ r.length < f.length ∧ tAg f r = true := by simp [fY]
theorem fY_app {f r t : List Int32} (h : fY f (r ++ t) = true) : fY f r = true := by
  rw [fY_iff] at h ⊢
  rw [List.length_append] at h
  exact ⟨by omega, tAg_pre f r t h.2⟩
theorem fW_app {f r t : List Int32} (h : fY f r = false) : fW f (r ++ t) = fW f r := by
  rw [Bool.eq_iff_iff, fW_iff, fW_iff, List.length_append]
  constructor
  · rintro ⟨a, b⟩
    have b' := tAg_pre f r t b
    refine ⟨?_, b'⟩
    apply Classical.byContradiction
    intro q
    rw [fY_iff.mpr ⟨by omega, b'⟩] at h
    cases h
  · rintro ⟨a, b⟩
    exact ⟨by omega, by rw [tAg_app f r t a]; exact b⟩
def mxf (r : List Int32) : List (List Int32) → Nat → Nat
  | [], w => w
  | f :: fs, w => mxf r fs (if fW f r = true ∧ w < f.length then f.length else w)
theorem mxf_app (r : List Int32) : ∀ (A B : List (List Int32)) (w : Nat), mxf r (A ++ B) w = mxf r B (mxf r A w) := by
  intro A
  induction A with
  | nil => intro B w; rfl
  | cons f A ih => intro B w; exact ih B _
theorem mxf_char (r : List Int32) : ∀ (A : List (List Int32)) (w : Nat), w ≤ mxf r A w ∧ (∀ f ∈ A, fW f r = true → f.length ≤ mxf r A w) ∧ (mxf r A w = w ∨ ∃ f ∈ A, fW f r = true ∧ f.length = mxf r A w) := by
  intro A
  induction A with
  | nil => intro w; exact ⟨Nat.le_refl _, fun f hf => by simp at hf, Or.inl rfl⟩
  | cons g A ih =>
    intro w
    obtain ⟨a, b, c⟩ := ih (if fW g r = true ∧ w < g.length then g.length else w)
    have e : mxf r (g :: A) w = mxf r A (if fW g r = true ∧ w < g.length then g.length else w) := rfl
    rw [e]
    generalize mxf r A (if fW g r = true ∧ w < g.length then g.length else w) = M at a b c
    by_cases q : fW g r = true ∧ w < g.length
    · rw [if_pos q] at a c
      refine ⟨by omega, fun f hf hw => ?_, Or.inr ?_⟩
      · rcases List.mem_cons.mp hf with rfl | h
        · exact a
        · exact b f h hw
      · rcases c with c | ⟨f, h1, h2, h3⟩
        · exact ⟨g, List.mem_cons_self, q.1, c.symm⟩
        · exact ⟨f, List.mem_cons_of_mem _ h1, h2, h3⟩
    · rw [if_neg q] at a c
      refine ⟨a, fun f hf hw => ?_, ?_⟩
      · rcases List.mem_cons.mp hf with rfl | h
        · have : ¬ w < f.length := fun z => q ⟨hw, z⟩
          omega
        · exact b f h hw
      · rcases c with c | ⟨f, h1, h2, h3⟩
        · exact Or.inl c
        · exact Or.inr ⟨f, List.mem_cons_of_mem _ h1, h2, h3⟩
theorem mxf_mem {r : List Int32} {A B : List (List Int32)} (h : ∀ f, f ∈ A ↔ f ∈ B) : mxf r A 0 = mxf r B 0 := by
  obtain ⟨-, b1, c1⟩ := mxf_char r A 0
  obtain ⟨-, b2, c2⟩ := mxf_char r B 0
  have le1 : mxf r A 0 ≤ mxf r B 0 := by
    rcases c1 with c | ⟨f, h1, h2, h3⟩
    · omega
    · rw [← h3]; exact b2 f ((h f).mp h1) h2
  have le2 : mxf r B 0 ≤ mxf r A 0 := by
    rcases c2 with c | ⟨f, h1, h2, h3⟩
    · omega
    · rw [← h3]; exact b1 f ((h f).mpr h1) h2
  omega
theorem mxf_cong {r r' : List Int32} : ∀ (A : List (List Int32)) (w : Nat), (∀ f ∈ A, fW f r = fW f r') → mxf r A w = mxf r' A w := by
  intro A
  induction A with
  | nil => intro w _; rfl
  | cons g A ih =>
    intro w h
    show mxf r A _ = mxf r' A _
    rw [h g List.mem_cons_self]
    exact ih _ (fun f hf => h f (List.mem_cons_of_mem _ hf))
theorem mxf_le {r : List Int32} {A : List (List Int32)} : mxf r A 0 ≤ r.length := by
  obtain ⟨-, -, c⟩ := mxf_char r A 0
  rcases c with c | ⟨f, h1, h2, h3⟩
  · omega
  · rw [← h3]; exact (fW_iff.mp h2).1
def my (r : List Int32) (A : List (List Int32)) : Bool := A.any (fun f => fY f r)
theorem my_iff {r : List Int32} {A : List (List Int32)} : my r A = true ↔ ∃ f ∈ A, fY f r = true := by simp [my]
theorem my_mem {r : List Int32} {A B : List (List Int32)} (h : ∀ f, f ∈ A ↔ f ∈ B) : my r A = my r B := by
  rw [Bool.eq_iff_iff, my_iff, my_iff]
  exact ⟨fun ⟨f, a, b⟩ => ⟨f, (h f).mp a, b⟩, fun ⟨f, a, b⟩ => ⟨f, (h f).mpr a, b⟩⟩
/-- the state: done, told, covered -/
def cvS (A : List (List Int32)) (xs : List Int32) (s : Nat × List Int32 × Nat) : Nat × List Int32 × Nat :=
  if mxf (xs.drop s.1) A 0 = 0 then (s.1 + 1, s.2.1 ++ [(xs[s.1]?).getD 0], s.2.2) else (s.1 + mxf (xs.drop s.1) A 0, s.2.1 ++ [42, 42, 42], s.2.2 + 1)
def cv (A : List (List Int32)) (last : Bool) (xs : List Int32) : Nat → Nat × List Int32 × Nat → Nat × List Int32 × Nat
  | 0, s => s
  | k + 1, s => if xs.length ≤ s.1 then s else if last = false ∧ my (xs.drop s.1) A = true then s else cv A last xs k (cvS A xs s)
theorem cvS_gt (A : List (List Int32)) (xs : List Int32) (s : Nat × List Int32 × Nat) : s.1 < (cvS A xs s).1 := by
  unfold cvS
  by_cases q : mxf (xs.drop s.1) A 0 = 0
  · rw [if_pos q]; simp
  · rw [if_neg q]; simp; omega
theorem cvS_le (A : List (List Int32)) (xs : List Int32) (s : Nat × List Int32 × Nat) (h : s.1 < xs.length) : (cvS A xs s).1 ≤ xs.length := by
  unfold cvS
  by_cases q : mxf (xs.drop s.1) A 0 = 0
  · rw [if_pos q]; simp; omega
  · rw [if_neg q]
    have := mxf_le (r := xs.drop s.1) (A := A)
    rw [List.length_drop] at this
    simp
    omega
theorem cv_ge (A : List (List Int32)) (last : Bool) (xs : List Int32) : ∀ (k : Nat) (s : Nat × List Int32 × Nat), s.1 ≤ (cv A last xs k s).1 := by
  intro k
  induction k with
  | zero => intro s; exact Nat.le_refl _
  | succ k ih =>
    intro s
    rw [cv]
    by_cases q1 : xs.length ≤ s.1
    · rw [if_pos q1]; exact Nat.le_refl _
    · rw [if_neg q1]
      by_cases q2 : last = false ∧ my (xs.drop s.1) A = true
      · rw [if_pos q2]; exact Nat.le_refl _
      · rw [if_neg q2]
        have := ih (cvS A xs s)
        have := cvS_gt A xs s
        omega
theorem cv_more (A : List (List Int32)) (last : Bool) (xs : List Int32) : ∀ (k k' : Nat) (s : Nat × List Int32 × Nat), xs.length ≤ s.1 + k → k ≤ k' → cv A last xs k' s = cv A last xs k s := by
  intro k
  induction k with
  | zero =>
    intro k' s h1 h2
    cases k' with
    | zero => rfl
    | succ k' => rw [cv, cv, if_pos (by omega)]
  | succ k ih =>
    intro k' s h1 h2
    obtain ⟨k', rfl⟩ : ∃ q, k' = q + 1 := ⟨k' - 1, by omega⟩
    rw [cv, cv]
    have := cvS_gt A xs s
    rw [ih k' (cvS A xs s) (by omega) (by omega)]
theorem cv_app (A : List (List Int32)) (xs t : List Int32) : ∀ (k k' : Nat) (s : Nat × List Int32 × Nat), s.1 ≤ xs.length → (xs ++ t).length ≤ s.1 + k' → cv A false (xs ++ t) k' s = cv A false (xs ++ t) k' (cv A false xs k s) := by
  intro k
  induction k with
  | zero => intro k' s _ _; rfl
  | succ k ih =>
    intro k' s h1 h2
    rw [List.length_append] at h2
    rw [cv.eq_2 A false xs]
    by_cases q1 : xs.length ≤ s.1
    · rw [if_pos q1]
    · rw [if_neg q1]
      by_cases q2 : false = false ∧ my (xs.drop s.1) A = true
      · rw [if_pos q2]
      · rw [if_neg q2]
        have nm : my (xs.drop s.1) A = false := by
          cases e : my (xs.drop s.1) A with
          | false => rfl
          | true => exact absurd ⟨rfl, e⟩ q2
        have ny : ∀ f ∈ A, fY f (xs.drop s.1) = false := by
          intro f hf
          cases e : fY f (xs.drop s.1) with
          | false => rfl
          | true => rw [my_iff.mpr ⟨f, hf, e⟩] at nm; cases nm
        have ed : (xs ++ t).drop s.1 = xs.drop s.1 ++ t := List.drop_append_of_le_length (by omega)
        have nm2 : ¬ (false = false ∧ my ((xs ++ t).drop s.1) A = true) := by
          rintro ⟨-, w⟩
          obtain ⟨f, a, b⟩ := my_iff.mp w
          rw [ed] at b
          exact absurd (ny f a) (by rw [fY_app b]; decide)
        have es : cvS A (xs ++ t) s = cvS A xs s := by
          unfold cvS
          rw [ed, mxf_cong (r := xs.drop s.1 ++ t) (r' := xs.drop s.1) A 0 (fun f hf => fW_app (ny f hf)), List.getElem?_append_left (by omega)]
        obtain ⟨k', rfl⟩ : ∃ q, k' = q + 1 := ⟨k' - 1, by omega⟩
        have g1 := cvS_gt A xs s
        have g2 := cvS_le A xs s (by omega)
        have g3 := cv_ge A false xs k (cvS A xs s)
        rw [cv.eq_2 A false (xs ++ t) s k', if_neg (by rw [List.length_append]; omega), if_neg nm2, es, ih k' (cvS A xs s) g2 (by rw [List.length_append]; omega)]
        exact (cv_more A false (xs ++ t) k' (k' + 1) _ (by rw [List.length_append]; omega) (by omega)).symm
/-- what holds of the state -/
def cvI (xs : List Int32) (s : Nat × List Int32 × Nat) : Prop := s.1 ≤ xs.length ∧ s.2.1.length ≤ s.1 ∧ s.2.2 ≤ s.1 ∧ ∀ x ∈ s.2.1, cOK x
theorem cvS_inv {A : List (List Int32)} {xs : List Int32} {s : Nat × List Int32 × Nat} (hA : ∀ f ∈ A, 4 ≤ f.length) (hx : ∀ x ∈ xs, cOK x) (h : cvI xs s) (hd : s.1 < xs.length) : cvI xs (cvS A xs s) := by
  obtain ⟨a, b, c, d⟩ := h
  refine ⟨cvS_le A xs s hd, ?_⟩
  unfold cvS
  by_cases q : mxf (xs.drop s.1) A 0 = 0
  · rw [if_pos q]
    refine ⟨by simp; omega, by simp; omega, fun x hm => ?_⟩
    rcases List.mem_append.mp hm with hm | hm
    · exact d x hm
    · rw [List.getElem?_eq_getElem hd] at hm
      rw [List.mem_singleton.mp hm]
      exact hx _ (List.getElem_mem hd)
  · rw [if_neg q]
    obtain ⟨-, -, w⟩ := mxf_char (xs.drop s.1) A 0
    obtain ⟨f, h1, h2, h3⟩ := w.resolve_left q
    have := hA f h1
    refine ⟨by simp; omega, by simp; omega, fun x hm => ?_⟩
    rcases List.mem_append.mp hm with hm | hm
    · exact d x hm
    · have : x = 42 := by simpa using hm
      exact ⟨42, by omega, by omega, this⟩
theorem cv_inv {A : List (List Int32)} {last : Bool} {xs : List Int32} (hA : ∀ f ∈ A, 4 ≤ f.length) (hx : ∀ x ∈ xs, cOK x) : ∀ (k : Nat) (s : Nat × List Int32 × Nat), cvI xs s → cvI xs (cv A last xs k s) := by
  intro k
  induction k with
  | zero => intro s h; exact h
  | succ k ih =>
    intro s h
    rw [cv]
    by_cases q1 : xs.length ≤ s.1
    · rw [if_pos q1]; exact h
    · rw [if_neg q1]
      by_cases q2 : last = false ∧ my (xs.drop s.1) A = true
      · rw [if_pos q2]; exact h
      · rw [if_neg q2]
        exact ih _ (cvS_inv hA hx h (by omega))
theorem cv_len {A B : List (List Int32)} {last : Bool} {xs : List Int32} (h : ∀ f, f ∈ A ↔ f ∈ B) : ∀ (k : Nat) (s : Nat × List Int32 × Nat), cv A last xs k s = cv B last xs k s := by
  intro k
  induction k with
  | zero => intro s; rfl
  | succ k ih =>
    intro s
    rw [cv, cv, my_mem h, ih]
    congr 1
    unfold cvS
    rw [mxf_mem h]
/-- the forms that count, in the class's order: secret, value, form, old -/
def fE (s v o : Nat) : List (Nat × Nat × Nat × Nat) := [(s, v, 0, o), (s, v, 1, o), (s, v, 2, o)]
def fOd (sI : Nat → Nat → Int32) (sO : Nat → Nat → Option Nat) (s : Nat) : List (Nat × Nat × Nat × Nat) := match sO 1 s with
  | none => []
  | some v => if sI 3 s ≤ sI 7 0 then [] else fE s v 1
def fNw (sO : Nat → Nat → Option Nat) (s : Nat) : List (Nat × Nat × Nat × Nat) := match sO 0 s with
  | none => []
  | some v => fE s v 0
def fLs (sI : Nat → Nat → Int32) (sO : Nat → Nat → Option Nat) : Nat → List (Nat × Nat × Nat × Nat)
  | 0 => []
  | S + 1 => fLs sI sO S ++ (fOd sI sO S ++ fNw sO S)
def eT (sL : Nat → Nat → List Int32) (e : Nat × Nat × Nat × Nat) : List Int32 := fT (sL 0 e.2.1) e.2.2.1
theorem fOd_len (sI : Nat → Nat → Int32) (sO : Nat → Nat → Option Nat) (s : Nat) : (fOd sI sO s).length ≤ 3 := by
  unfold fOd
  split
  · simp
  · split <;> simp [fE]
theorem fNw_len (sO : Nat → Nat → Option Nat) (s : Nat) : (fNw sO s).length ≤ 3 := by
  unfold fNw
  split <;> simp [fE]
theorem fLs_len (sI : Nat → Nat → Int32) (sO : Nat → Nat → Option Nat) : ∀ S, (fLs sI sO S).length ≤ 6 * S := by
  intro S
  induction S with
  | zero => exact Nat.le_refl _
  | succ S ih =>
    have := fOd_len sI sO S
    have := fNw_len sO S
    rw [fLs, List.length_append, List.length_append]
    omega
theorem fE_mem {s v o : Nat} {e : Nat × Nat × Nat × Nat} : e ∈ fE s v o ↔ e.1 = s ∧ e.2.1 = v ∧ e.2.2.1 ≤ 2 ∧ e.2.2.2 = o := by
  obtain ⟨a, b, c, d⟩ := e
  simp only [fE, List.mem_cons, Prod.mk.injEq, List.not_mem_nil, or_false]
  constructor
  · omega
  · rintro ⟨rfl, rfl, h, rfl⟩
    have : c = 0 ∨ c = 1 ∨ c = 2 := by omega
    rcases this with rfl | rfl | rfl <;> simp
theorem fS_mem {sI : Nat → Nat → Int32} {sO : Nat → Nat → Option Nat} {s : Nat} {e : Nat × Nat × Nat × Nat} : e ∈ fOd sI sO s ++ fNw sO s ↔ e.1 = s ∧ e.2.2.1 ≤ 2 ∧ ((sO 1 s = some e.2.1 ∧ ¬ sI 3 s ≤ sI 7 0 ∧ e.2.2.2 = 1) ∨ (sO 0 s = some e.2.1 ∧ e.2.2.2 = 0)) := by
  rw [List.mem_append]
  have h1 : e ∈ fOd sI sO s ↔ e.1 = s ∧ e.2.2.1 ≤ 2 ∧ sO 1 s = some e.2.1 ∧ ¬ sI 3 s ≤ sI 7 0 ∧ e.2.2.2 = 1 := by
    unfold fOd
    cases eo : sO 1 s with
    | none => simp
    | some v =>
      by_cases c : sI 3 s ≤ sI 7 0
      · simp [c]
      · simp only [if_neg c, fE_mem]
        constructor
        · rintro ⟨a, b, d, f⟩
          exact ⟨a, d, by rw [b], c, f⟩
        · rintro ⟨a, b, d, -, f⟩
          exact ⟨a, (Option.some.inj d).symm, b, f⟩
  have h2 : e ∈ fNw sO s ↔ e.1 = s ∧ e.2.2.1 ≤ 2 ∧ sO 0 s = some e.2.1 ∧ e.2.2.2 = 0 := by
    unfold fNw
    cases eo : sO 0 s with
    | none => simp
    | some v =>
      simp only [fE_mem]
      constructor
      · rintro ⟨a, b, d, f⟩
        exact ⟨a, d, by rw [b], f⟩
      · rintro ⟨a, b, d, f⟩
        exact ⟨a, (Option.some.inj d).symm, b, f⟩
  rw [h1, h2]
  constructor
  · rintro (⟨a, b, c⟩ | ⟨a, b, c⟩)
    · exact ⟨a, b, Or.inl c⟩
    · exact ⟨a, b, Or.inr c⟩
  · rintro ⟨a, b, c | c⟩
    · exact Or.inl ⟨a, b, c⟩
    · exact Or.inr ⟨a, b, c⟩
theorem fLs_mem {sI : Nat → Nat → Int32} {sO : Nat → Nat → Option Nat} {e : Nat × Nat × Nat × Nat} : ∀ S, e ∈ fLs sI sO S ↔ e.1 < S ∧ e.2.2.1 ≤ 2 ∧ ((sO 1 e.1 = some e.2.1 ∧ ¬ sI 3 e.1 ≤ sI 7 0 ∧ e.2.2.2 = 1) ∨ (sO 0 e.1 = some e.2.1 ∧ e.2.2.2 = 0)) := by
  intro S
  induction S with
  | zero => simp [fLs]
  | succ S ih =>
    rw [fLs, List.mem_append, ih, fS_mem]
    constructor
    · rintro (⟨a, b, c⟩ | ⟨a, b, c⟩)
      · exact ⟨by omega, b, c⟩
      · rw [← a] at c
        exact ⟨by omega, b, c⟩
    · rintro ⟨a, b, c⟩
      by_cases q : e.1 = S
      · rw [q] at c
        exact Or.inr ⟨q, b, c⟩
      · exact Or.inl ⟨by omega, b, c⟩
/-- does a value count; the forms that count, in the reference's order -/
def cnt (sI : Nat → Nat → Int32) (sO : Nat → Nat → Option Nat) (sN : Nat → Nat → Nat) (v : Nat) : Bool := decide (sO 0 (sN 5 v) = some v ∨ (sO 1 (sN 5 v) = some v ∧ ¬ sI 3 (sN 5 v) ≤ sI 7 0))
theorem cnt_iff {sI : Nat → Nat → Int32} {sO : Nat → Nat → Option Nat} {sN : Nat → Nat → Nat} {v : Nat} : cnt sI sO sN v = true ↔ sO 0 (sN 5 v) = some v ∨ (sO 1 (sN 5 v) = some v ∧ ¬ sI 3 (sN 5 v) ≤ sI 7 0) := by unfold cnt; exact decide_eq_true_iff
def tri (sL : Nat → Nat → List Int32) (v : Nat) : List (List Int32) := [fT (sL 0 v) 0, fT (sL 0 v) 1, fT (sL 0 v) 2]
def rLs (sI : Nat → Nat → Int32) (sO : Nat → Nat → Option Nat) (sL : Nat → Nat → List Int32) (sN : Nat → Nat → Nat) : Nat → List (List Int32)
  | 0 => []
  | V + 1 => rLs sI sO sL sN V ++ (if cnt sI sO sN V = true then tri sL V else [])
theorem tri_mem {sL : Nat → Nat → List Int32} {v : Nat} {f : List Int32} : f ∈ tri sL v ↔ ∃ c, c ≤ 2 ∧ f = fT (sL 0 v) c := by
  simp only [tri, List.mem_cons, List.not_mem_nil, or_false]
  constructor
  · rintro (h | h | h)
    · exact ⟨0, by omega, h⟩
    · exact ⟨1, by omega, h⟩
    · exact ⟨2, by omega, h⟩
  · rintro ⟨c, h, rfl⟩
    have : c = 0 ∨ c = 1 ∨ c = 2 := by omega
    rcases this with rfl | rfl | rfl <;> simp
theorem rLs_mem {sI : Nat → Nat → Int32} {sO : Nat → Nat → Option Nat} {sL : Nat → Nat → List Int32} {sN : Nat → Nat → Nat} {f : List Int32} : ∀ V, f ∈ rLs sI sO sL sN V ↔ ∃ v, v < V ∧ cnt sI sO sN v = true ∧ ∃ c, c ≤ 2 ∧ f = fT (sL 0 v) c := by
  intro V
  induction V with
  | zero => simp [rLs]
  | succ V ih =>
    rw [rLs, List.mem_append, ih]
    constructor
    · rintro (⟨v, a, b⟩ | h)
      · exact ⟨v, by omega, b⟩
      · by_cases q : cnt sI sO sN V = true
        · rw [if_pos q] at h
          exact ⟨V, by omega, q, tri_mem.mp h⟩
        · rw [if_neg q] at h
          simp at h
    · rintro ⟨v, a, b, c⟩
      by_cases q : v = V
      · subst q
        right
        rw [if_pos b]
        exact tri_mem.mpr c
      · exact Or.inl ⟨v, by omega, b, c⟩
theorem forms_same {sI : Nat → Nat → Int32} {sO : Nat → Nat → Option Nat} {sL : Nat → Nat → List Int32} {sN : Nat → Nat → Nat} (hV : VS sI sO sL sN) : ∀ f, f ∈ (fLs sI sO (sN 0 0)).map (eT sL) ↔ f ∈ rLs sI sO sL sN (sN 0 3) := by
  obtain ⟨-, -, -, d4, d5, -⟩ := hV
  intro f
  rw [List.mem_map, rLs_mem]
  constructor
  · rintro ⟨⟨s, v, c, o⟩, h1, rfl⟩
    obtain ⟨a1, a2, a3⟩ := (fLs_mem _).mp h1
    simp only at a1 a2 a3
    obtain ⟨-, p2, p3, -⟩ := d5 s a1
    rcases a3 with ⟨b1, b2, b3⟩ | ⟨b1, b2⟩
    · obtain ⟨q1, q2, -⟩ := p3 v b1
      exact ⟨v, q1, cnt_iff.mpr (Or.inr ⟨by rw [q2]; exact b1, by rw [q2]; exact b2⟩), c, a2, rfl⟩
    · obtain ⟨q1, q2⟩ := p2 v b1
      exact ⟨v, q1, cnt_iff.mpr (Or.inl (by rw [q2]; exact b1)), c, a2, rfl⟩
  · rintro ⟨v, h1, h2, c, h3, rfl⟩
    have hs := (d4 v h1).2.2.2
    rcases cnt_iff.mp h2 with h2 | ⟨h2, h4⟩
    · exact ⟨(sN 5 v, v, c, 0), (fLs_mem _).mpr ⟨hs, h3, Or.inr ⟨h2, rfl⟩⟩, rfl⟩
    · exact ⟨(sN 5 v, v, c, 1), (fLs_mem _).mpr ⟨hs, h3, Or.inl ⟨h2, h4, rfl⟩⟩, rfl⟩
theorem fLs_ok {sI : Nat → Nat → Int32} {sO : Nat → Nat → Option Nat} {sL : Nat → Nat → List Int32} {sN : Nat → Nat → Nat} (hV : VS sI sO sL sN) : ∀ e ∈ fLs sI sO (sN 0 0), e.2.1 < sN 0 3 ∧ e.2.2.1 ≤ 2 ∧ 4 ≤ (eT sL e).length ∧ (eT sL e).length ≤ 24 := by
  obtain ⟨-, -, -, d4, d5, -⟩ := hV
  intro e h
  obtain ⟨a1, a2, a3⟩ := (fLs_mem _).mp h
  obtain ⟨-, p2, p3, -⟩ := d5 e.1 a1
  have hv : e.2.1 < sN 0 3 := by
    rcases a3 with ⟨b1, -⟩ | ⟨b1, -⟩
    · exact (p3 _ b1).1
    · exact (p2 _ b1).1
  obtain ⟨l1, l2, -⟩ := d4 _ hv
  refine ⟨hv, a2, ?_, ?_⟩
  · unfold eT
    rw [fT_len _ _ a2]
    split <;> omega
  · unfold eT
    rw [fT_len _ _ a2]
    split <;> omega
