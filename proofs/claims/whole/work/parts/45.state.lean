/-! THE STATE that class and reference share, in tables.
sN 0 0 secrets, 0 1 steps, 0 2 tokens, 0 3 values; sN 1 i done of step i, 2 i covered; sN 3 k a token's secret, 4 k its value; sN 5 v whose a value is
sI 0 s environments, 1 s branches, 2 s jobs, 3 s till, 4 s revoked; sI 5 i closed; sI 6 k a token's end; sI 7 0 clock; sI 8 0..2 the leak
sO 0 s value, 1 s old, 2 + i: what step i keeps of s; sL 0 v a value's characters, 1 i came, 2 i told, 3 0 tape; au the audit -/
def cnC (sN : Nat → Nat → Nat) (t : Nat) : Nat := if t < 13 then 1 else if t = 13 then sN 0 0 else if t < 21 then sN 0 1 else if t = 21 then sN 0 2 else if t < 29 then sN 0 3 else 0
/-- roles: 0 the object; 1, 2, 3 its arrays; 4 audit, 5 its cells; 6, 7 tape; 8 forms, 9 .. 12 its arrays; 13 secret; 14 step, 15 kept, 16 log, 17, 18 came, 19, 20 told; 21 token; 22 value, 23, 24 its text, 25, 26 from the end, 27, 28 by codes -/
def cM (ad : Nat → Nat → Nat) (sI : Nat → Nat → Int32) (sN : Nat → Nat → Nat) : gE := .inr (8, [.ref (ad 1 0), .ref (ad 2 0), .ref (ad 3 0), .ref (ad 4 0), .ref (ad 6 0), .ref (ad 8 0), .int (nI (sN 0 0)), .int (nI (sN 0 1)), .int (nI (sN 0 2)), .int (nI (sN 0 3)), .int (sI 7 0), .int (sI 8 0), .int (sI 8 1), .int (sI 8 2)])
def aR (C : String) (n : Nat) (g : Nat → Option Nat) : gE := .inl (.object C, n, .inr (.inr (.inr (.inr g))))
def cS (ad : Nat → Nat → Nat) (sI : Nat → Nat → Int32) (sO : Nat → Nat → Option Nat) (i : Nat) : gE := .inr (2, [.int (sI 0 i), .int (sI 1 i), .int (sI 2 i), va_rf ((sO 0 i).map (ad 22)), va_rf ((sO 1 i).map (ad 22)), .int (sI 3 i), .int (sI 4 i)])
def cSec (ad : Nat → Nat → Nat) (ce : Nat → Nat → gE) (sI : Nat → Nat → Int32) (sO : Nat → Nat → Option Nat) (sN : Nat → Nat → Nat) : Prop := sN 0 0 ≤ 10 ∧ (∃ g : Nat → Option Nat, ce 1 0 = aR "SecretRows$Secret" 10 g ∧ ∀ i, i < sN 0 0 → g i = some (ad 13 i)) ∧ ∀ i, i < sN 0 0 → ce 13 i = cS ad sI sO i
def cVal (ad : Nat → Nat → Nat) (ce : Nat → Nat → gE) (sL : Nat → Nat → List Int32) (sN : Nat → Nat → Nat) : Prop := sN 0 3 ≤ 24 ∧ ∀ v, v < sN 0 3 → ce 22 v = .inr (1, [.int (nI v), .ref (ad 23 v), .ref (ad 25 v), .ref (ad 27 v)]) ∧ rtx ad ce 23 v (sL 0 v).length (sL 0 v) ∧ rtx ad ce 25 v (sL 0 v).length (sL 0 v).reverse ∧ rtx ad ce 27 v (2 * (sL 0 v).length) (hexL (sL 0 v))
def cStp (ad : Nat → Nat → Nat) (ce : Nat → Nat → gE) (sI : Nat → Nat → Int32) (sO : Nat → Nat → Option Nat) (sL : Nat → Nat → List Int32) (sN : Nat → Nat → Nat) : Prop := sN 0 1 ≤ 12 ∧ (∃ g : Nat → Option Nat, ce 2 0 = aR "SecretRows$Step" 12 g ∧ ∀ i, i < sN 0 1 → g i = some (ad 14 i)) ∧ ∀ i, i < sN 0 1 → ce 14 i = .inr (4, [.ref (ad 15 i), .ref (ad 16 i)]) ∧ (∃ g : Nat → Option Nat, ce 15 i = aR "SecretRows$Value" 10 g ∧ ∀ s, s < 10 → g s = (sO (2 + i) s).map (ad 22)) ∧ ce 16 i = .inr (3, [.ref (ad 17 i), .ref (ad 19 i), .int (nI (sN 1 i)), .int (nI (sN 2 i)), .int (sI 5 i)]) ∧ rtx ad ce 17 i 300 (sL 1 i) ∧ rtx ad ce 19 i 300 (sL 2 i)
def cTok (ad : Nat → Nat → Nat) (ce : Nat → Nat → gE) (sI : Nat → Nat → Int32) (sN : Nat → Nat → Nat) : Prop := sN 0 2 ≤ 20 ∧ (∃ g : Nat → Option Nat, ce 3 0 = aR "SecretRows$Token" 20 g ∧ ∀ i, i < sN 0 2 → g i = some (ad 21 i)) ∧ ∀ i, i < sN 0 2 → ce 21 i = .inr (5, [.int (nI (sN 3 i)), .ref (ad 22 (sN 4 i)), .int (sI 6 i)])
def cAud (ad : Nat → Nat → Nat) (ce : Nat → Nat → gE) (au : List (Int32 × Int32 × Int32)) : Prop := ce 4 0 = .inr (6, [.ref (ad 5 0), .int (nI au.length)]) ∧ au.length ≤ 200 ∧ ∃ f : Nat → Int32, ce 5 0 = .inl (.int, 600, .inl f) ∧ ∀ i, i < au.length → au[i]? = some (f (3 * i), f (3 * i + 1), f (3 * i + 2))
def cFrm (ad : Nat → Nat → Nat) (ce : Nat → Nat → gE) : Prop := ∃ (c : Int32) (g : Nat → Option Nat) (f1 f2 f3 : Nat → Int32), ce 8 0 = .inr (7, [.ref (ad 9 0), .ref (ad 10 0), .ref (ad 11 0), .ref (ad 12 0), .int c]) ∧ ce 9 0 = aR "SecretRows$Text" 60 g ∧ ce 10 0 = .inl (.int, 60, .inl f1) ∧ ce 11 0 = .inl (.int, 60, .inl f2) ∧ ce 12 0 = .inl (.int, 60, .inl f3)
def C1 (z : gS) (ad : Nat → Nat → Nat) (ce : Nat → Nat → gE) (sI : Nat → Nat → Int32) (sO : Nat → Nat → Option Nat) (sL : Nat → Nat → List Int32) (sN : Nat → Nat → Nat) (au : List (Int32 × Int32 × Int32)) : Prop :=
  rh z ad ce (cnC sN) ∧ ce 0 0 = cM ad sI sN ∧ cSec ad ce sI sO sN ∧ cVal ad ce sL sN ∧ cStp ad ce sI sO sL sN ∧ cTok ad ce sI sN ∧ cAud ad ce au ∧ rtx ad ce 6 0 300 (sL 3 0) ∧ cFrm ad ce
/-- the reference's arrays hold the same tables -/
def oI (r : Option Nat) : Int32 := match r with
  | none => -1
  | some v => nI v
def RS (iv : Nat → Int32) (fa : Nat → Nat → Int32) (sI : Nat → Nat → Int32) (sO : Nat → Nat → Option Nat) (sL : Nat → Nat → List Int32) (sN : Nat → Nat → Nat) (au : List (Int32 × Int32 × Int32)) : Prop :=
  (iv 1 = sI 7 0 ∧ iv 2 = nI (sN 0 0) ∧ iv 3 = nI (sN 0 3) ∧ iv 4 = nI (sN 0 1) ∧ iv 5 = nI (sN 0 2) ∧ iv 6 = nI au.length ∧ iv 18 = nI (sL 3 0).length ∧ iv 33 = sI 8 0 ∧ (sI 8 0 ≠ -1 → iv 34 = sI 8 1 ∧ iv 35 = sI 8 2)) ∧
  (∀ v, v < sN 0 3 → fa 7 v = nI (sN 5 v) ∧ fa 8 v = nI (sL 0 v).length ∧ ∀ j, j < (sL 0 v).length → (sL 0 v)[j]? = some (fa 9 (12 * v + j))) ∧
  (∀ s, s < sN 0 0 → fa 10 s = sI 0 s ∧ fa 11 s = sI 1 s ∧ fa 12 s = sI 2 s ∧ fa 13 s = oI (sO 0 s) ∧ fa 14 s = oI (sO 1 s) ∧ fa 15 s = sI 3 s ∧ fa 16 s = sI 4 s) ∧
  (∀ s, sN 0 0 ≤ s → s < 10 → fa 15 s = 0 ∧ fa 16 s = 0) ∧
  (∀ j, j < (sL 3 0).length → (sL 3 0)[j]? = some (fa 17 j)) ∧
  (∀ i, i < sN 0 1 → (∀ s, s < 10 → fa 19 (10 * i + s) = oI (sO (2 + i) s)) ∧ (∀ j, j < (sL 1 i).length → (sL 1 i)[j]? = some (fa 20 (300 * i + j))) ∧ fa 21 i = nI (sL 1 i).length ∧ fa 22 i = nI (sN 1 i) ∧ (∀ j, j < (sL 2 i).length → (sL 2 i)[j]? = some (fa 23 (300 * i + j))) ∧ fa 24 i = nI (sL 2 i).length ∧ fa 25 i = nI (sN 2 i) ∧ fa 26 i = sI 5 i) ∧
  (∀ i, sN 0 1 ≤ i → i < 12 → fa 21 i = 0 ∧ fa 22 i = 0 ∧ fa 24 i = 0 ∧ fa 25 i = 0 ∧ fa 26 i = 0) ∧
  (∀ i, i < au.length → au[i]? = some (fa 27 i, fa 28 i, fa 29 i)) ∧
  (∀ k, k < sN 0 2 → fa 30 k = nI (sN 3 k) ∧ fa 31 k = nI (sN 4 k) ∧ fa 32 k = sI 6 k)
/-- what holds of the tables themselves -/
def cOK (x : Int32) : Prop := ∃ j : Nat, 32 ≤ j ∧ j ≤ 126 ∧ x = nI j
def VS (sI : Nat → Nat → Int32) (sO : Nat → Nat → Option Nat) (sL : Nat → Nat → List Int32) (sN : Nat → Nat → Nat) : Prop :=
  (∃ c : Nat, c ≤ 1000000000 ∧ sI 7 0 = nI c) ∧ (sI 8 0 = -1 → sI 8 1 = -1 ∧ sI 8 2 = -1) ∧
  (∀ x ∈ sL 3 0, cOK x) ∧
  (∀ v, v < sN 0 3 → 4 ≤ (sL 0 v).length ∧ (sL 0 v).length ≤ 12 ∧ (∀ x ∈ sL 0 v, cOK x) ∧ sN 5 v < sN 0 0) ∧
  (∀ s, s < sN 0 0 → (sI 4 s = 0 ∨ sI 4 s = 1) ∧ (∀ v, sO 0 s = some v → v < sN 0 3 ∧ sN 5 v = s) ∧ (∀ v, sO 1 s = some v → v < sN 0 3 ∧ sN 5 v = s ∧ ∃ w, sO 0 s = some w ∧ v < w) ∧ ∃ c : Nat, c ≤ 1000100000 ∧ sI 3 s = nI c) ∧
  (∀ i, i < sN 0 1 → (sI 5 i = 0 ∨ sI 5 i = 1) ∧ (∀ s v, s < 10 → sO (2 + i) s = some v → s < sN 0 0 ∧ v < sN 0 3) ∧ (∀ x ∈ sL 1 i, cOK x) ∧ (∀ x ∈ sL 2 i, cOK x) ∧ sN 1 i ≤ (sL 1 i).length ∧ (sL 1 i).length ≤ 300 ∧ (sL 2 i).length ≤ sN 1 i ∧ sN 2 i ≤ sN 1 i) ∧
  (∀ k, k < sN 0 2 → sN 3 k < sN 0 0 ∧ sN 4 k < sN 0 3 ∧ ∃ c : Nat, c ≤ 1000100000 ∧ sI 6 k = nI c)
/-- THE SIMULATION -/
def Sim (x y : Nat) (G1 G2 : Nat → Option gE) (sz : Nat) : Prop := ∃ (ad : Nat → Nat → Nat) (ce : Nat → Nat → gE) (bd : Nat → Nat) (iv : Nat → Int32) (fa : Nat → Nat → Int32) (sI : Nat → Nat → Int32) (sO : Nat → Nat → Option Nat) (sL : Nat → Nat → List Int32) (sN : Nat → Nat → Nat) (au : List (Int32 × Int32 × Int32)),
  x = ad 0 0 ∧ y = bd 0 ∧ C1 (G1, sz) ad ce sI sO sL sN au ∧ R2 (G2, sz) bd iv fa ∧ RS iv fa sI sO sL sN au ∧ VS sI sO sL sN
theorem rh.sz {G : Nat → Option gE} {s1 s2 : Nat} {ad : Nat → Nat → Nat} {ce : Nat → Nat → gE} {cn : Nat → Nat} (h : rh (G, s1) ad ce cn) (hs : s1 ≤ s2) : rh (G, s2) ad ce cn := ⟨h.1, fun t i hi => Nat.lt_of_lt_of_le (h.2.1 t i hi) hs, h.2.2⟩
theorem C1.sz {G : Nat → Option gE} {s1 s2 : Nat} {ad : Nat → Nat → Nat} {ce : Nat → Nat → gE} {sI : Nat → Nat → Int32} {sO : Nat → Nat → Option Nat} {sL : Nat → Nat → List Int32} {sN : Nat → Nat → Nat} {au : List (Int32 × Int32 × Int32)} (h : C1 (G, s1) ad ce sI sO sL sN au) (hs : s1 ≤ s2) : C1 (G, s2) ad ce sI sO sL sN au := ⟨h.1.sz hs, h.2⟩
theorem sim_is (n x y : Nat) : ∀ (G1 G2 : Nat → Option gE) (sz : Nat), Sim x y G1 G2 sz → g_is (G1, sz) x 8 = some () ∧ g_is (G2, sz) y 9 = some () := by
  intro G1 G2 sz h
  obtain ⟨ad, ce, bd, iv, fa, sI, sO, sL, sN, au, rfl, rfl, hC, hR, -⟩ := h
  exact ⟨q_is (hC.1.get (t := 0) (i := 0) (by simp [cnC]) hC.2.1), r_is hR⟩
