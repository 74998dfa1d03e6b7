/-! THE CLASS looks for forms in a text -/
def lwl (sL : Nat → Nat → List Int32) (b : Option (Nat × (Nat × Nat × Nat × Nat))) : Nat := match b with
  | none => 0
  | some (_, e) => (eT sL e).length
def lwo (b : Option (Nat × (Nat × Nat × Nat × Nat))) : Int32 := match b with
  | none => -1
  | some (j, _) => nI j
def lwi (sL : Nat → Nat → List Int32) (r : List Int32) : List (Nat × Nat × Nat × Nat) → Nat → Option (Nat × (Nat × Nat × Nat × Nat)) → Option (Nat × (Nat × Nat × Nat × Nat))
  | [], _, b => b
  | e :: es, j, b => lwi sL r es (j + 1) (if fW (eT sL e) r = true ∧ lwl sL b < (eT sL e).length then some (j, e) else b)
theorem lwi_len (sL : Nat → Nat → List Int32) (r : List Int32) : ∀ (es : List (Nat × Nat × Nat × Nat)) (j : Nat) (b : Option (Nat × (Nat × Nat × Nat × Nat))), lwl sL (lwi sL r es j b) = mxf r (es.map (eT sL)) (lwl sL b) := by
  intro es
  induction es with
  | nil => intro j b; rfl
  | cons e es ih =>
    intro j b
    rw [List.map_cons]
    show lwl sL (lwi sL r es (j + 1) _) = mxf r (es.map (eT sL)) _
    rw [ih]
    congr 1
    by_cases q : fW (eT sL e) r = true ∧ lwl sL b < (eT sL e).length
    · rw [if_pos q, if_pos q]; rfl
    · rw [if_neg q, if_neg q]
theorem lwi_get (sL : Nat → Nat → List Int32) (r : List Int32) (es0 : List (Nat × Nat × Nat × Nat)) : ∀ (m j : Nat) (b : Option (Nat × (Nat × Nat × Nat × Nat))), j + m = es0.length → (∀ j' e, b = some (j', e) → es0[j']? = some e) → ∀ j' e, lwi sL r (es0.drop j) j b = some (j', e) → es0[j']? = some e := by
  intro m
  induction m with
  | zero =>
    intro j b h1 h2 j' e h3
    rw [List.drop_eq_nil_of_le (by omega)] at h3
    exact h2 j' e h3
  | succ m ih =>
    intro j b h1 h2 j' e h3
    have hj : j < es0.length := by omega
    rw [List.drop_eq_getElem_cons hj] at h3
    refine ih (j + 1) _ (by omega) (fun j2 e2 h4 => ?_) j' e h3
    by_cases q : fW (eT sL es0[j]) r = true ∧ lwl sL b < (eT sL es0[j]).length
    · rw [if_pos q] at h4
      cases h4
      exact List.getElem?_eq_getElem hj
    · rw [if_neg q] at h4
      exact h2 j2 e2 h4
section LK
variable {z z1 : gS} {ad : Nat → Nat → Nat} {ce : Nat → Nat → gE} {sI : Nat → Nat → Int32} {sO : Nat → Nat → Option Nat} {sL : Nat → Nat → List Int32} {sN : Nat → Nat → Nat} {au : List (Int32 × Int32 × Int32)} {es : List (Nat × Nat × Nat × Nat)}
theorem c_ft (hC : C1 z ad ce sI sO sL sN au) {v f : Nat} (hv : v < sN 0 3) (hf : f ≤ 2) : ∃ ra cap, tx z (ad (23 + 2 * f) v) ra cap (fT (sL 0 v) f) := by
  have : f = 0 ∨ f = 1 ∨ f = 2 := by omega
  rcases this with rfl | rfl | rfl
  · exact ⟨_, _, hC.vt0 hv⟩
  · exact ⟨_, _, hC.vt1 hv⟩
  · exact ⟨_, _, hC.vt2 hv⟩
theorem FR.is (hF : FR z ad es) : g_is z (ad 8 0) 7 = some () := by
  obtain ⟨g, f1, f2, f3, b8, -⟩ := hF
  exact q_is b8
theorem FR.cn (hF : FR z ad es) : g_fI z (ad 8 0) 7 4 = some (nI es.length) := by
  obtain ⟨g, f1, f2, f3, b8, -⟩ := hF
  exact q_fI b8 rfl
theorem FR.le (hF : FR z ad es) : es.length ≤ 60 := by
  obtain ⟨g, f1, f2, f3, b8, b9, b10, b11, b12, bl, bk⟩ := hF
  exact bl
theorem fm_there (hF : FR z ad es) (n : Nat) {j : Nat} (hj : j < es.length) : fForms_isThere n (ad 8 0) (nI j) z = some (1, z) := by
  have bl := hF.le
  unfold fForms_isThere
  rw [if_neg (nI_pos (by omega)), hF.cn, Option.bind_some, if_neg (fun q => absurd ((nI_leI (by omega) (by omega)).mp q) (by omega)), if_neg (show ¬ 60 ≤ nI j from fun q => absurd ((nI_leI (a := 60) (by omega) (by omega)).mp q) (by omega))]
theorem fm_text (hF : FR z ad es) (n : Nat) {j : Nat} {e : Nat × Nat × Nat × Nat} (he : es[j]? = some e) : fForms_textOf n (ad 8 0) (nI j) z = some (some (ad (23 + 2 * e.2.2.1) e.2.1), z) := by
  have hj : j < es.length := by
    apply Classical.byContradiction
    intro q
    rw [List.getElem?_eq_none (by omega)] at he
    cases he
  have th := fm_there hF n hj
  have i := hF.is
  obtain ⟨g, f1, f2, f3, b8, b9, b10, b11, b12, bl, bk⟩ := hF
  unfold fForms_textOf
  rw [i, Option.bind_some, q_bp th, if_neg (by decide), q_fR b8 (k := 0) (r := some (ad 9 0)) rfl, Option.bind_some, Option.bind_some, q_ldR b9 (by omega) (by omega), Option.bind_some, (bk j e.1 e.2.1 e.2.2.1 e.2.2.2 he).1]
theorem fm_owner (hF : FR z ad es) (n : Nat) {j : Nat} {e : Nat × Nat × Nat × Nat} (he : es[j]? = some e) : fForms_ownerOf n (ad 8 0) (nI j) z = some (nI e.1, z) ∧ fForms_kindOf n (ad 8 0) (nI j) z = some (nI e.2.2.1, z) ∧ fForms_oldOf n (ad 8 0) (nI j) z = some (nI e.2.2.2, z) := by
  have hj : j < es.length := by
    apply Classical.byContradiction
    intro q
    rw [List.getElem?_eq_none (by omega)] at he
    cases he
  have th := fm_there hF n hj
  have i := hF.is
  obtain ⟨g, f1, f2, f3, b8, b9, b10, b11, b12, bl, bk⟩ := hF
  obtain ⟨-, k1, k2, k3⟩ := bk j e.1 e.2.1 e.2.2.1 e.2.2.2 he
  refine ⟨?_, ?_, ?_⟩
  · unfold fForms_ownerOf
    rw [i, Option.bind_some, q_bp th, if_neg (by decide), q_fR b8 (k := 1) (r := some (ad 10 0)) rfl, Option.bind_some, Option.bind_some, q_ldI b10 (by omega) (by omega), Option.bind_some, k1]
  · unfold fForms_kindOf
    rw [i, Option.bind_some, q_bp th, if_neg (by decide), q_fR b8 (k := 2) (r := some (ad 11 0)) rfl, Option.bind_some, Option.bind_some, q_ldI b11 (by omega) (by omega), Option.bind_some, k2]
  · unfold fForms_oldOf
    rw [i, Option.bind_some, q_bp th, if_neg (by decide), q_fR b8 (k := 3) (r := some (ad 12 0)) rfl, Option.bind_some, Option.bind_some, q_ldI b12 (by omega) (by omega), Option.bind_some, k3]
/-- what the list's entries keep -/
def EO (sL : Nat → Nat → List Int32) (sN : Nat → Nat → Nat) (es : List (Nat × Nat × Nat × Nat)) : Prop := ∀ e ∈ es, e.2.1 < sN 0 3 ∧ e.2.2.1 ≤ 2 ∧ 4 ≤ (eT sL e).length ∧ (eT sL e).length ≤ 24
theorem fm_lengthOf (hC : C1 z ad ce sI sO sL sN au) (hF : FR z ad es) (hE : EO sL sN es) (n : Nat) {j : Nat} {e : Nat × Nat × Nat × Nat} (he : es[j]? = some e) : fForms_lengthOf n (ad 8 0) (nI j) z = some (nI (eT sL e).length, z) := by
  have hme : e ∈ es := List.mem_of_getElem? he
  obtain ⟨q1, q2, q3, q4⟩ := hE e hme
  obtain ⟨ra, cap, ht⟩ := c_ft hC q1 q2
  unfold fForms_lengthOf
  rw [hF.is, Option.bind_some, q_bp (fm_text hF n he)]
  simp only [g_n]
  rw [q_is ht.1, Option.bind_some, q_bp (tx_len ht n)]
  rfl
theorem fm_longest (hC : C1 z ad ce sI sO sL sN au) (hF : FR z ad es) (hE : EO sL sN es) (n : Nat) (hn : 1000 < n) {a1 ra cap d : Nat} {ys : List Int32} (hy : tx z a1 ra cap ys) (hd : d ≤ ys.length) : ∀ (k j : Nat) (b : Option (Nat × (Nat × Nat × Nat × Nat))), j ≤ es.length → es.length < j + k → lwl sL b ≤ 24 → fForms_longestWhole_L16 n k (ad 8 0) a1 (nI d) (nI (ys.length - d)) (lwo b) (nI (lwl sL b)) (nI j) z = some (lwo (lwi sL (ys.drop d) (es.drop j) j b), z) := by
  have bl := hF.le
  have hl : ys.length ≤ 1000 := Nat.le_trans hy.2.1 hy.2.2.1
  intro k
  induction k with
  | zero => intro j b q1 q2; omega
  | succ k ih =>
    intro j b q1 q2 hb
    rw [fForms_longestWhole_L16, hF.cn, Option.bind_some]
    by_cases c0 : es.length ≤ j
    · rw [if_pos ((nI_leI (by omega) (by omega)).mpr c0), List.drop_eq_nil_of_le c0]
      rfl
    · have hj : j < es.length := by omega
      have he : es[j]? = some es[j] := List.getElem?_eq_getElem hj
      obtain ⟨p1, p2, p3, p4⟩ := hE es[j] (List.getElem_mem hj)
      obtain ⟨rb, cap2, ht⟩ := c_ft hC p1 p2
      have el : fT (sL 0 es[j].2.1) es[j].2.2.1 = eT sL es[j] := rfl
      rw [el] at ht
      rw [if_neg (fun q => c0 ((nI_leI (by omega) (by omega)).mp q)), hF.is, Option.bind_some, q_bp (fm_text hF n he)]
      simp only [g_n]
      rw [q_is ht.1, Option.bind_some, q_bp (tx_len ht n), List.drop_eq_getElem_cons hj, lwi, nI_1]
      by_cases c1 : (eT sL es[j]).length ≤ lwl sL b
      · rw [if_pos ((nI_leI (by omega) (by omega)).mpr c1), ih (j + 1) b (by omega) (by omega) hb, if_neg (by omega)]
      · rw [if_neg (fun q => c1 ((nI_leI (by omega) (by omega)).mp q)), q_is ht.1, Option.bind_some, q_bp (tx_len ht n)]
        by_cases c2 : ys.length - d < (eT sL es[j]).length
        · rw [if_pos ((nI_ltI (by omega) (by omega)).mpr c2), ih (j + 1) b (by omega) (by omega) hb, if_neg]
          rintro ⟨w, -⟩
          have := (fW_iff.mp w).1
          rw [List.length_drop] at this
          omega
        · have ag := tx_agrees ht hy n d hd hn
          rw [if_neg (fun q => c2 ((nI_ltI (by omega) (by omega)).mp q)), q_is ht.1, Option.bind_some]
          by_cases c3 : tAg (eT sL es[j]) (ys.drop d) = true
          · rw [if_pos c3] at ag
            have hw : fW (eT sL es[j]) (ys.drop d) = true := fW_iff.mpr ⟨by rw [List.length_drop]; omega, c3⟩
            rw [q_bp ag, if_neg (by decide), q_is ht.1, Option.bind_some, q_bp (tx_len ht n), if_pos ⟨hw, by omega⟩]
            exact ih (j + 1) (some (j, es[j])) (by omega) (by omega) p4
          · rw [if_neg c3] at ag
            rw [q_bp ag, if_pos rfl, ih (j + 1) b (by omega) (by omega) hb, if_neg]
            rintro ⟨w, -⟩
            exact c3 (fW_iff.mp w).2
/-- the longest one, its length, and where it stands in the list -/
theorem fm_lw (hC : C1 z ad ce sI sO sL sN au) (hF : FR z ad es) (hE : EO sL sN es) (n : Nat) (hn : 1000 < n) {a1 ra cap d : Nat} {ys : List Int32} (hy : tx z a1 ra cap ys) (hd : d ≤ ys.length) : fForms_longestWhole n (ad 8 0) a1 (nI d) z = some (lwo (lwi sL (ys.drop d) es 0 none), z) := by
  have bl := hF.le
  unfold fForms_longestWhole
  rw [q_is hy.1, Option.bind_some, q_bp (tx_len hy n), pk_sub hd]
  have := fm_longest hC hF hE n hn hy hd n 0 none (by omega) (by omega) (Nat.zero_le _)
  rw [List.drop_zero] at this
  exact this
theorem fm_may (hC : C1 z ad ce sI sO sL sN au) (hF : FR z ad es) (hE : EO sL sN es) (n : Nat) (hn : 1000 < n) {a1 ra cap d : Nat} {ys : List Int32} (hy : tx z a1 ra cap ys) (hd : d ≤ ys.length) : ∀ (k j : Nat), j ≤ es.length → es.length < j + k → fForms_mayCome_L10 n k (ad 8 0) a1 (nI d) (nI (ys.length - d)) (nI j) z = some (if my (ys.drop d) ((es.drop j).map (eT sL)) = true then 1 else 0, z) := by
  have bl := hF.le
  have hl : ys.length ≤ 1000 := Nat.le_trans hy.2.1 hy.2.2.1
  intro k
  induction k with
  | zero => intro j q1 q2; omega
  | succ k ih =>
    intro j q1 q2
    rw [fForms_mayCome_L10, hF.cn, Option.bind_some]
    by_cases c0 : es.length ≤ j
    · rw [if_pos ((nI_leI (by omega) (by omega)).mpr c0), List.drop_eq_nil_of_le c0]
      rfl
    · have hj : j < es.length := by omega
      have he : es[j]? = some es[j] := List.getElem?_eq_getElem hj
      obtain ⟨p1, p2, p3, p4⟩ := hE es[j] (List.getElem_mem hj)
      obtain ⟨rb, cap2, ht⟩ := c_ft hC p1 p2
      have el : fT (sL 0 es[j].2.1) es[j].2.2.1 = eT sL es[j] := rfl
      rw [el] at ht
      rw [if_neg (fun q => c0 ((nI_leI (by omega) (by omega)).mp q)), hF.is, Option.bind_some, q_bp (fm_text hF n he)]
      simp only [g_n]
      have em : my (ys.drop d) ((es.drop j).map (eT sL)) = (fY (eT sL es[j]) (ys.drop d) || my (ys.drop d) ((es.drop (j + 1)).map (eT sL))) := by
        rw [List.drop_eq_getElem_cons hj]
        rfl
      rw [q_is ht.1, Option.bind_some, q_bp (tx_len ht n), nI_1, em]
      by_cases c1 : (eT sL es[j]).length ≤ ys.length - d
      · have ny : fY (eT sL es[j]) (ys.drop d) = false := by
          rw [Bool.eq_false_iff]
          intro w
          have := (fY_iff.mp w).1
          rw [List.length_drop] at this
          omega
        rw [if_pos ((nI_leI (by omega) (by omega)).mpr c1), ih (j + 1) (by omega) (by omega), ny, Bool.false_or]
      · have ag := tx_agrees ht hy n d hd hn
        rw [if_neg (fun q => c1 ((nI_leI (by omega) (by omega)).mp q)), q_is ht.1, Option.bind_some]
        by_cases c3 : tAg (eT sL es[j]) (ys.drop d) = true
        · rw [if_pos c3] at ag
          have yy : fY (eT sL es[j]) (ys.drop d) = true := fY_iff.mpr ⟨by rw [List.length_drop]; omega, c3⟩
          rw [q_bp ag, if_neg (by decide), yy, Bool.true_or, if_pos rfl]
        · rw [if_neg c3] at ag
          have ny : fY (eT sL es[j]) (ys.drop d) = false := by
            rw [Bool.eq_false_iff]
            intro w
            exact c3 (fY_iff.mp w).2
          rw [q_bp ag, if_pos rfl, ih (j + 1) (by omega) (by omega), ny, Bool.false_or]
theorem fm_mc (hC : C1 z ad ce sI sO sL sN au) (hF : FR z ad es) (hE : EO sL sN es) (n : Nat) (hn : 1000 < n) {a1 ra cap d : Nat} {ys : List Int32} (hy : tx z a1 ra cap ys) (hd : d ≤ ys.length) : fForms_mayCome n (ad 8 0) a1 (nI d) z = some (if my (ys.drop d) (es.map (eT sL)) = true then 1 else 0, z) := by
  have bl := hF.le
  unfold fForms_mayCome
  rw [q_is hy.1, Option.bind_some, q_bp (tx_len hy n), pk_sub hd]
  have := fm_may hC hF hE n hn hy hd n 0 (by omega) (by omega)
  rw [List.drop_zero] at this
  exact this
end LK
