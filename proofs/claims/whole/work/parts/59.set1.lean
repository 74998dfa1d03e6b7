def hO (sL : Nat → Nat → List Int32) (tp : List Int32) (r : Option Nat) : Bool := match r with
  | none => false
  | some v => decide (sL 0 v = tp)
def hdS (sO : Nat → Nat → Option Nat) (sL : Nat → Nat → List Int32) (tp : List Int32) (s : Nat) : Bool := hO sL tp (sO 0 s) || hO sL tp (sO 1 s)
def hdL (f : Nat → Bool) : Nat → Nat → Bool
  | 0, _ => false
  | m + 1, s => f s || hdL f m (s + 1)
section ST
variable {z : gS} {ad : Nat → Nat → Nat} {ce : Nat → Nat → gE} {bd : Nat → Nat} {iv : Nat → Int32} {fa : Nat → Nat → Int32} {sI : Nat → Nat → Int32} {sO : Nat → Nat → Option Nat} {sL : Nat → Nat → List Int32} {sN : Nat → Nat → Nat} {au : List (Int32 × Int32 × Int32)}
theorem c_has (hC : C1 z ad ce sI sO sL sN au) (hV : VS sI sO sL sN) (n : Nat) (hn : 1000 < n) {s : Nat} (hs : s < sN 0 0) : fSecret_has n (ad 13 s) (ad 6 0) z = some (if hdS sO sL (sL 3 0) s then 1 else 0, z) := by
  obtain ⟨-, -, -, -, d5, -⟩ := id hV
  obtain ⟨-, p2, p3, -⟩ := d5 s hs
  have hse := hC.sec hs
  have ht := hC.tpx
  have J : fSecret_has_J21 n (ad 13 s) (ad 6 0) z = some (if hO sL (sL 3 0) (sO 1 s) then 1 else 0, z) := by
    unfold fSecret_has_J21
    rw [q_fR hse (k := 4) (r := (sO 1 s).map (ad 22)) rfl, Option.bind_some]
    cases eo : sO 1 s with
    | none => rfl
    | some w =>
      have hw := (p3 w eo).1
      simp only [Option.map_some, g_n, Option.bind_some]
      rw [q_fR (hC.val hw) (k := 1) (r := some (ad 23 w)) rfl, Option.bind_some, Option.bind_some, q_is (hC.vt0 hw).1, Option.bind_some, q_bp (tx_like (hC.vt0 hw) ht n hn)]
      by_cases c : sL 0 w = sL 3 0
      · simp [hO, c]
      · simp [hO, c]
  unfold fSecret_has
  rw [q_fR hse (k := 3) (r := (sO 0 s).map (ad 22)) rfl, Option.bind_some]
  cases eo : sO 0 s with
  | none =>
    simp only [Option.map_none, g_n]
    have e1 : hdS sO sL (sL 3 0) s = hO sL (sL 3 0) (sO 1 s) := by
      unfold hdS
      rw [eo]
      rfl
    rw [J, e1]
  | some w =>
    have hw := (p2 w eo).1
    simp only [Option.map_some, g_n, Option.bind_some]
    rw [q_fR (hC.val hw) (k := 1) (r := some (ad 23 w)) rfl, Option.bind_some, Option.bind_some, q_is (hC.vt0 hw).1, Option.bind_some, q_bp (tx_like (hC.vt0 hw) ht n hn)]
    by_cases c : sL 0 w = sL 3 0
    · rw [if_pos c, if_neg (by decide)]
      simp [hdS, eo, hO, c]
    · have e1 : hdS sO sL (sL 3 0) s = hO sL (sL 3 0) (sO 1 s) := by
        unfold hdS
        rw [eo]
        show (decide (sL 0 w = sL 3 0) || _) = _
        rw [decide_eq_false c]
        rfl
      rw [if_neg c, if_pos rfl, J, e1]
theorem c_isHad (hC : C1 z ad ce sI sO sL sN au) (hV : VS sI sO sL sN) (n : Nat) (hn : 1000 < n) : fMain_tapeIsHad n (ad 0 0) z = some (if hdL (hdS sO sL (sL 3 0)) (sN 0 0) 0 then 1 else 0, z) := by
  have hnS := hC.nS
  have hm := c_m hC
  have L : ∀ k s, s ≤ sN 0 0 → sN 0 0 < s + k → fMain_tapeIsHad_L2 n k (ad 0 0) (nI s) z = some (if hdL (hdS sO sL (sL 3 0)) (sN 0 0 - s) s then 1 else 0, z) := by
    intro k
    induction k with
    | zero => intro s q1 q2; omega
    | succ k ih =>
      intro s q1 q2
      rw [fMain_tapeIsHad_L2, q_fI hm (k := 6) (x := nI (sN 0 0)) rfl, Option.bind_some]
      by_cases c0 : sN 0 0 ≤ s
      · rw [if_pos ((nI_leI (by omega) (by omega)).mpr c0), show sN 0 0 - s = 0 by omega]
        rfl
      · have hs : s < sN 0 0 := by omega
        rw [if_neg (fun q => c0 ((nI_leI (by omega) (by omega)).mp q)), q_is hm, Option.bind_some, q_bp (fs_some hC n hs)]
        simp only [g_n]
        rw [q_fR hm (k := 4) (r := some (ad 6 0)) rfl, Option.bind_some, Option.bind_some, q_is (hC.sec hs), Option.bind_some, q_bp (c_has hC hV n hn hs), nI_1, ih (s + 1) (by omega) (by omega), show sN 0 0 - s = (sN 0 0 - (s + 1)) + 1 by omega, hdL]
        cases hdS sO sL (sL 3 0) s
        · simp
        · simp
  unfold fMain_tapeIsHad
  have := L n 0 (by omega) (by omega)
  rw [nI_0] at this
  exact this
theorem c_canBe (hC : C1 z ad ce sI sO sL sN au) (n : Nat) (hn : 1000 < n) : fMain_tapeCanBeValue n (ad 0 0) z = some (if 4 ≤ (sL 3 0).length ∧ (sL 3 0).length ≤ 12 ∧ (32 : Int32) ∉ sL 3 0 then 1 else 0, z) := by
  have hm := c_m hC
  have ht := hC.tpx
  have hl : (sL 3 0).length ≤ 300 := ht.2.1
  unfold fMain_tapeCanBeValue
  rw [q_fR hm (k := 4) (r := some (ad 6 0)) rfl, Option.bind_some, Option.bind_some, q_is ht.1, Option.bind_some, q_bp (tx_len ht n)]
  by_cases c0 : (sL 3 0).length < 4
  · rw [if_pos (show nI (sL 3 0).length < 4 from (nI_ltI (b := 4) (by omega) (by omega)).mpr c0), if_neg (by omega)]
  · rw [if_neg (show ¬ nI (sL 3 0).length < 4 from fun q => c0 ((nI_ltI (b := 4) (by omega) (by omega)).mp q)), q_fR hm (k := 4) (r := some (ad 6 0)) rfl, Option.bind_some, Option.bind_some, q_is ht.1, Option.bind_some, q_bp (tx_len ht n)]
    by_cases c1 : 12 < (sL 3 0).length
    · rw [if_pos (show 12 < nI (sL 3 0).length from (nI_ltI (a := 12) (by omega) (by omega)).mpr c1), if_neg (by omega)]
    · have hh := tx_has ht n 32 n 0 (by omega) (by omega)
      rw [nI_0] at hh
      rw [if_neg (show ¬ 12 < nI (sL 3 0).length from fun q => c1 ((nI_ltI (a := 12) (by omega) (by omega)).mp q)), q_fR hm (k := 4) (r := some (ad 6 0)) rfl, Option.bind_some, Option.bind_some, q_is ht.1, Option.bind_some, q_bp (show fText_has n (ad 6 0) 32 z = _ from hh), List.drop_zero]
      by_cases c2 : (32 : Int32) ∈ sL 3 0
      · rw [if_pos c2, if_neg (by decide), if_neg (fun q => q.2.2 c2)]
      · rw [if_neg c2, if_pos rfl, if_pos ⟨by omega, by omega, c2⟩]
/-- the reference: the tape is a value's text -/
theorem r_taped (hR : R2 z bd iv fa) (hRS : RS iv fa sI sO sL sN au) {tp : List Int32} (htp : ∀ j, j < tp.length → tp[j]? = some (fa 17 j)) (hlt : tp.length ≤ 12) (hb : ∀ v, v < sN 0 3 → (sL 0 v).length ≤ 12) (hnV : sN 0 3 ≤ 24) (n : Nat) (hn : 1000 < n) (r : Option Nat) (hr : ∀ v, r = some v → v < sN 0 3) : fRef_isTaped n (bd 0) (oI r) (nI tp.length) z = some (if hO sL tp r then 1 else 0, z) := by
  have L0 : ∀ (v : Int32) k, fRef_isTaped_L24 n (k + 1) (bd 0) v (nI tp.length) 0 0 z = some (0, z) := by
    intro v k
    rw [fRef_isTaped_L24]
    by_cases c : nI tp.length ≤ 0
    · rw [if_pos c, if_pos (Or.inl rfl)]
    · rw [if_neg c, if_pos rfl, if_pos (Or.inl rfl)]
  obtain ⟨m, rfl⟩ : ∃ m, n = m + 1 := ⟨n - 1, by omega⟩
  unfold fRef_isTaped
  cases r with
  | none =>
    rw [if_pos (show oI none = -1 from rfl)]
    exact L0 _ m
  | some v =>
    have hv := hr v rfl
    obtain ⟨-, b1, -⟩ := id hRS
    obtain ⟨-, f8, f9⟩ := b1 v hv
    have hlv := hb v hv
    have hne : ¬ oI (some v) = -1 := fun q => absurd ((oI_m1 (r := some v) (fun w hw => by have := hr w hw; omega)).mp q) (by simp)
    rw [if_neg hne, r_R hR 8 rfl, Option.bind_some, Option.bind_some]
    show (g_ldI z .int (bd 8) (nI v)).bind _ = _
    rw [r_ld hR (k := 8) (ty := .int) (by unfold aK; omega) rfl (by show v < 24; omega), f8, Option.bind_some]
    by_cases c0 : (sL 0 v).length = tp.length
    · rw [if_pos (by rw [c0])]
      have L : ∀ k i, i ≤ tp.length → tp.length < i + k → fRef_isTaped_L24 (m + 1) k (bd 0) (nI v) (nI tp.length) 1 (nI i) z = some (if (sL 0 v).drop i = tp.drop i then 1 else 0, z) := by
        intro k
        induction k with
        | zero => intro i q1 q2; omega
        | succ k ih =>
          intro i q1 q2
          rw [fRef_isTaped_L24]
          by_cases c1 : tp.length ≤ i
          · rw [if_pos ((nI_leI (by omega) (by omega)).mpr c1), if_pos (Or.inr rfl), List.drop_eq_nil_of_le (as := sL 0 v) (by omega), List.drop_eq_nil_of_le c1, if_pos rfl]
          · have h1 : i < (sL 0 v).length := by omega
            have h2 : i < tp.length := by omega
            have e5 : (12 : Int32) * nI v + nI i = nI (12 * v + i) := by
              rw [show (12 : Int32) = nI 12 from rfl, pk_mul, nI_add]
            rw [if_neg (fun q => c1 ((nI_leI (by omega) (by omega)).mp q)), if_neg (by decide), r_R hR 9 rfl, Option.bind_some, Option.bind_some, e5, r_ld hR (k := 9) (ty := .int) (by unfold aK; omega) rfl (by show _ < 288; omega), Option.bind_some, r_R hR 17 rfl, Option.bind_some, Option.bind_some, r_ld hR (k := 17) (ty := .int) (by unfold aK; omega) rfl (by show _ < 300; omega), Option.bind_some, nI_1]
            have x1 := f9 i h1
            have x2 := htp i h2
            rw [List.getElem?_eq_getElem h1] at x1
            rw [List.getElem?_eq_getElem h2] at x2
            rw [List.drop_eq_getElem_cons h1, List.drop_eq_getElem_cons h2, Option.some.inj x1, Option.some.inj x2]
            by_cases c2 : fa 9 (12 * v + i) = fa 17 i
            · rw [if_pos c2, ih (i + 1) (by omega) (by omega), c2]
              simp only [List.cons.injEq, true_and]
            · rw [if_neg c2]
              have : ¬ (fa 9 (12 * v + i) :: List.drop (i + 1) (sL 0 v) = fa 17 i :: List.drop (i + 1) tp) := fun q => c2 (List.cons.inj q).1
              rw [if_neg this]
              cases k with
              | zero => omega
              | succ k =>
                rw [fRef_isTaped_L24]
                by_cases c3 : nI tp.length ≤ nI (i + 1)
                · rw [if_pos c3, if_pos (Or.inl rfl)]
                · rw [if_neg c3, if_pos rfl, if_pos (Or.inl rfl)]
      have := L (m + 1) 0 (by omega) (by omega)
      rw [nI_0, List.drop_zero, List.drop_zero] at this
      show fRef_isTaped_L24 (m + 1) (m + 1) (bd 0) (nI v) (nI tp.length) 1 0 z = _
      rw [this]
      by_cases c1 : sL 0 v = tp
      · simp [hO, c1]
      · simp [hO, c1]
    · rw [if_neg (fun q => c0 ((nI_eq (by omega) (by omega)).mp q))]
      have : ¬ sL 0 v = tp := fun q => c0 (by rw [q])
      rw [show hO sL tp (some v) = false from by simp [hO, this]]
      exact L0 _ m
end ST
