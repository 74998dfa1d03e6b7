/-! THE REFERENCE covers a step's log -/
def hB (b : Bool) : Int32 := if b = true then 1 else 0
theorem ite_bd {P : Prop} [Decidable P] {a b M : Nat} (ha : a ≤ M) (hb : b ≤ M) : (if P then a else b) ≤ M := by split <;> assumption
theorem hB_t : hB true = 1 := rfl
theorem hB_f : hB false = 0 := rfl
def LRf (fa : Nat → Nat → Int32) (i : Nat) (xs : List Int32) (s : Nat × List Int32 × Nat) : Prop := (∀ j, j < xs.length → xs[j]? = some (fa 20 (300 * i + j))) ∧ fa 21 i = nI xs.length ∧ fa 22 i = nI s.1 ∧ (∀ j, j < s.2.1.length → s.2.1[j]? = some (fa 23 (300 * i + j))) ∧ fa 24 i = nI s.2.1.length ∧ fa 25 i = nI s.2.2
def FRf (fa fa' : Nat → Nat → Int32) (i : Nat) : Prop := (∀ q, (q < 20 ∨ 25 < q) → fa' q = fa q) ∧ (∀ q j, q ≠ 20 → q ≠ 23 → j ≠ i → fa' q j = fa q j) ∧ ∀ q j, (j < 300 * i ∨ 300 * i + 300 ≤ j) → (q = 20 ∨ q = 23) → fa' q j = fa q j
theorem FRf.rf (fa : Nat → Nat → Int32) (i : Nat) : FRf fa fa i := ⟨fun _ _ => rfl, fun _ _ _ _ _ => rfl, fun _ _ _ _ => rfl⟩
theorem FRf.tr {fa fb fc : Nat → Nat → Int32} {i : Nat} (h : FRf fa fb i) (h2 : FRf fb fc i) : FRf fa fc i := ⟨fun q a => (h2.1 q a).trans (h.1 q a), fun q j a b c => (h2.2.1 q j a b c).trans (h.2.1 q j a b c), fun q j a b => (h2.2.2 q j a b).trans (h.2.2 q j a b)⟩
theorem FRf.ru1 (fa : Nat → Nat → Int32) {i q : Nat} (x : Int32) (h1 : 20 ≤ q) (h2 : q ≤ 25) (h3 : q ≠ 20) (h4 : q ≠ 23) : FRf fa (ru fa q i x) i := ⟨fun p hp => ru_f _ _ (by omega), fun p j _ _ hj => ru_n _ _ (by omega), fun p j _ hp => ru_t _ _ (by omega)⟩
theorem FRf.ru2 (fa : Nat → Nat → Int32) {i q j : Nat} (x : Int32) (h1 : q = 20 ∨ q = 23) (h2 : j < 300) : FRf fa (ru fa q (300 * i + j) x) i := ⟨fun p hp => ru_f _ _ (by omega), fun p k a b _ => ru_t _ _ (by omega), fun p k hk _ => ru_n _ _ (by omega)⟩
section RC
variable {z : gS} {bd : Nat → Nat} {iv : Nat → Int32} {fa : Nat → Nat → Int32} {sI : Nat → Nat → Int32} {sO : Nat → Nat → Option Nat} {sL : Nat → Nat → List Int32} {sN : Nat → Nat → Nat} {i : Nat} {xs : List Int32}
theorem r_tell (h : R2 z bd iv fa) (n : Nat) (hi : i < 12) {T : Nat} (hT : T < 300) (h24 : fa 24 i = nI T) (x : Int32) : ∃ z1 : gS, fRef_tell n (bd 0) (nI i) x z = some z1 ∧ R2 z1 bd iv (ru (ru fa 23 (300 * i + T) x) 24 i (nI (T + 1))) ∧ z1.2 = z.2 := by
  obtain ⟨z1, e1, h1, s1⟩ := r_st h (k := 23) (ty := .int) (by unfold aK; omega) rfl (j := 300 * i + T) (by show _ < 3600; omega) x
  obtain ⟨z2, e2, h2, s2⟩ := r_st h1 (k := 24) (ty := .int) (by unfold aK; omega) rfl (j := i) (by show _ < 12; omega) (nI (T + 1))
  refine ⟨z2, ?_, h2, s2.trans s1⟩
  unfold fRef_tell
  rw [r_R h 23 rfl, Option.bind_some, r_R h 24 rfl, Option.bind_some, Option.bind_some, r_ld h (k := 24) (ty := .int) (by unfold aK; omega) rfl (by show _ < 12; omega), h24, Option.bind_some, Option.bind_some, show (300 : Int32) * nI i = nI (300 * i) from by rw [show (300 : Int32) = nI 300 from rfl, pk_mul], nI_add, e1, Option.bind_some, r_R h1 24 rfl, Option.bind_some, Option.bind_some, r_ld h1 (k := 24) (ty := .int) (by unfold aK; omega) rfl (by show _ < 12; omega), ru_t _ _ (by omega), h24, Option.bind_some, nI_1, e2, Option.bind_some]
/-- told, as the state has it -/
theorem r_tellS (h : R2 z bd iv fa) (n : Nat) (hi : i < 12) {s : Nat × List Int32 × Nat} (hL : LRf fa i xs s) (hT : s.2.1.length < 300) (x : Int32) : ∃ (z1 : gS) (fa1 : Nat → Nat → Int32), fRef_tell n (bd 0) (nI i) x z = some z1 ∧ R2 z1 bd iv fa1 ∧ z1.2 = z.2 ∧ LRf fa1 i xs (s.1, s.2.1 ++ [x], s.2.2) ∧ FRf fa fa1 i := by
  obtain ⟨l1, l2, l3, l4, l5, l6⟩ := hL
  obtain ⟨z1, e1, h1, s1⟩ := r_tell h n hi hT l5 x
  refine ⟨z1, _, e1, h1, s1, ⟨fun j hj => ?_, ?_, ?_, fun j hj => ?_, ?_, ?_⟩, (FRf.ru2 fa x (Or.inr rfl) hT).tr (FRf.ru1 _ _ (by omega) (by omega) (by omega) (by omega))⟩
  · rw [ru_t _ _ (by omega), ru_t _ _ (by omega)]; exact l1 j hj
  · rw [ru_t _ _ (by omega), ru_t _ _ (by omega)]; exact l2
  · rw [ru_t _ _ (by omega), ru_t _ _ (by omega)]; exact l3
  · rw [ru_t _ _ (by omega)]
    by_cases q : j < s.2.1.length
    · show (s.2.1 ++ [x])[j]? = _
      rw [ru_i _ _ (by omega), List.getElem?_append_left q]
      exact l4 j q
    · have : j = s.2.1.length := by simp at hj; omega
      subst this
      show (s.2.1 ++ [x])[s.2.1.length]? = _
      rw [ru_s]
      simp
  · show _ = nI (s.2.1 ++ [x]).length
    rw [ru_s, List.length_append]
    rfl
  · rw [ru_t _ _ (by omega), ru_t _ _ (by omega)]; exact l6
theorem r_J132 (n : Nat) (k16 : Nat → Int32 → Int32 → Int32 → Int32 → gS → Option gS) (k57 : Nat → Int32 → Int32 → Int32 → Int32 → Int32 → Int32 → Int32 → gS → Option gS) (k69 : Nat → Int32 → Int32 → Int32 → Int32 → Int32 → Int32 → Int32 → Int32 → gS → Option gS) (a : Nat) (i1 li : Int32) (last : Bool) (hli : li = 0 ↔ last = false) (held : Bool) {fr m all v f : Nat} {r F : List Int32} (hfr : fr + r.length ≤ 3600) (hm : m = cm F r) (hall : all = F.length) (hal : all ≤ 24) (w' : Int32) (z : gS) : fRef_cover_J132 n k16 k57 k69 a i1 li (nI (fr + r.length)) (hB held) (nI fr) (nI v) (nI f) (nI m) (nI all) w' z = k69 a i1 li (nI (fr + r.length)) (hB (held || (!last && fY F r))) (nI fr) w' (nI v) (nI (f + 1)) z := by
  obtain ⟨c1, c2, c3⟩ := cm_ag F r
  unfold fRef_cover_J132
  cases held with
  | true => rw [hB_t, if_neg (by decide), Bool.true_or, hB_t, nI_1]
  | false =>
    rw [hB_f, if_pos rfl, Bool.false_or]
    by_cases cl : last = false
    · rw [if_pos (hli.mpr cl), cl, Bool.not_false, Bool.true_and]
      by_cases g0 : all ≤ m
      · have ny : fY F r = false := by
          rw [Bool.eq_false_iff]
          intro w
          have := (cm_Y.mpr w).1
          omega
        rw [if_pos ((nI_leI (by omega) (by omega)).mpr g0), ny, hB_f, nI_1]
      · rw [if_neg (fun q => g0 ((nI_leI (by omega) (by omega)).mp q)), nI_add]
        by_cases g1 : m = r.length
        · have yy : fY F r = true := cm_Y.mp ⟨by omega, by omega⟩
          rw [if_pos (by rw [g1]), yy, hB_t, nI_1]
        · have ny : fY F r = false := by
            rw [Bool.eq_false_iff]
            intro w
            have := (cm_Y.mpr w).2
            omega
          rw [if_neg (fun q => g1 (by have := (nI_eq (by omega) (by omega)).mp q; omega)), ny, hB_f, nI_1]
    · have cl' : last = true := by cases last <;> simp_all
      rw [if_neg (fun q => cl (hli.mp q)), cl', Bool.not_true, Bool.false_and, hB_f, nI_1]
/-- one form of a value that counts -/
theorem r_L69s (h : R2 z bd iv fa) (hv : RV iv fa sI sO sL sN) (hV : VS sI sO sL sN) (hnS : sN 0 0 ≤ 10) (hnV : sN 0 3 ≤ 24) (n : Nat) (hn : 1000 < n) (k16 : Nat → Int32 → Int32 → Int32 → Int32 → gS → Option gS) (k57 : Nat → Int32 → Int32 → Int32 → Int32 → Int32 → Int32 → Int32 → gS → Option gS) (i1 li : Int32) (last : Bool) (hli : li = 0 ↔ last = false) (held : Bool) {fr v f w : Nat} {r : List Int32} (hlt : v < sN 0 3) (hf : f ≤ 2) (hr : ∀ j, j < r.length → r[j]? = some (fa 20 (fr + j))) (hfr : fr + r.length ≤ 3600) (hw : w ≤ 3600) (hc : cnt sI sO sN v = true) (k : Nat) : fRef_cover_L69 n k16 k57 (k + 1) (bd 0) i1 li (nI (fr + r.length)) (hB held) (nI fr) (nI w) (nI v) (nI f) z = fRef_cover_L69 n k16 k57 k (bd 0) i1 li (nI (fr + r.length)) (hB (held || (!last && fY (fT (sL 0 v) f) r))) (nI fr) (nI (if fW (fT (sL 0 v) f) r = true ∧ w < (fT (sL 0 v) f).length then (fT (sL 0 v) f).length else w)) (nI v) (nI (f + 1)) z := by
  have hll : (fT (sL 0 v) f).length ≤ 24 := by
    have := (hV.2.2.2.1 v hlt).2.1
    rw [fT_len _ _ hf]
    split <;> omega
  have ct := r_counts h hv hV hnS hnV n hlt
  rw [if_pos hc] at ct
  have cmm := r_cm h hv hV hnV n hn hlt hf (w := 20) (by unfold aK; omega) rfl hr hfr
  obtain ⟨c1, c2, c3⟩ := cm_ag (fT (sL 0 v) f) r
  rw [fRef_cover_L69, if_neg (show ¬ 3 ≤ nI f from fun q => absurd ((nI_leI (a := 3) (by omega) (by omega)).mp q) (by omega)), r_is h, Option.bind_some, q_bp ct, if_neg (by decide), r_R h 20 rfl, Option.bind_some, Option.bind_some, r_is h, Option.bind_some, q_bp cmm, r_is h, Option.bind_some, q_bp (r_fl h hv hnV n hlt hf)]
  by_cases g0 : cm (fT (sL 0 v) f) r = (fT (sL 0 v) f).length
  · have hW : fW (fT (sL 0 v) f) r = true := cm_W.mp g0
    rw [if_pos (by rw [g0])]
    by_cases g1 : (fT (sL 0 v) f).length ≤ w
    · rw [if_pos ((nI_leI (by omega) (by omega)).mpr (by omega)), if_neg (fun q => by omega)]
      unfold fRef_cover_J130
      rw [r_J132 n k16 k57 _ (bd 0) i1 li last hli held hfr rfl rfl hll]
    · rw [if_neg (fun q => g1 (by have := (nI_leI (by omega) (by omega)).mp q; omega)), if_pos ⟨hW, by omega⟩, r_J132 n k16 k57 _ (bd 0) i1 li last hli held hfr rfl rfl hll, g0]
  · have nW : ¬ fW (fT (sL 0 v) f) r = true := fun q => g0 (cm_W.mpr q)
    rw [if_neg (fun q => g0 ((nI_eq (by omega) (by omega)).mp q)), if_neg (fun q => nW q.1)]
    unfold fRef_cover_J130
    rw [r_J132 n k16 k57 _ (bd 0) i1 li last hli held hfr rfl rfl hll]
theorem mxf_bd {r : List Int32} {A : List (List Int32)} {w : Nat} (hw : w ≤ 3600) (hA : ∀ f ∈ A, f.length ≤ 24) : mxf r A w ≤ 3600 := by
  obtain ⟨-, -, c⟩ := mxf_char r A w
  rcases c with c | ⟨f, h1, h2, h3⟩
  · omega
  · have := hA f h1; omega
theorem tri_bd (hV : VS sI sO sL sN) {v : Nat} (hlt : v < sN 0 3) : ∀ f ∈ tri sL v, 4 ≤ f.length ∧ f.length ≤ 24 := by
  intro f hf
  obtain ⟨c, h1, rfl⟩ := tri_mem.mp hf
  have := (hV.2.2.2.1 v hlt).1
  have := (hV.2.2.2.1 v hlt).2.1
  rw [fT_len _ _ h1]
  split <;> omega
theorem rLs_bd (hV : VS sI sO sL sN) {V : Nat} (hlt : V ≤ sN 0 3) : ∀ f ∈ rLs sI sO sL sN V, 4 ≤ f.length ∧ f.length ≤ 24 := by
  intro f hf
  obtain ⟨v, h1, -, c, h3, rfl⟩ := (rLs_mem V).mp hf
  exact tri_bd hV (v := v) (by omega) _ (tri_mem.mpr ⟨c, h3, rfl⟩)
/-- all forms of a value -/
theorem r_L69 (h : R2 z bd iv fa) (hv : RV iv fa sI sO sL sN) (hV : VS sI sO sL sN) (hnS : sN 0 0 ≤ 10) (hnV : sN 0 3 ≤ 24) (n : Nat) (hn : 1000 < n) (k16 : Nat → Int32 → Int32 → Int32 → Int32 → gS → Option gS) (k57 : Nat → Int32 → Int32 → Int32 → Int32 → Int32 → Int32 → Int32 → gS → Option gS) (i1 li : Int32) (last : Bool) (hli : li = 0 ↔ last = false) (held : Bool) {fr v w : Nat} {r : List Int32} (hlt : v < sN 0 3) (hr : ∀ j, j < r.length → r[j]? = some (fa 20 (fr + j))) (hfr : fr + r.length ≤ 3600) (hw : w ≤ 3600) : fRef_cover_L69 n k16 k57 n (bd 0) i1 li (nI (fr + r.length)) (hB held) (nI fr) (nI w) (nI v) 0 z = k57 (bd 0) i1 li (nI (fr + r.length)) (hB (held || (!last && my r (if cnt sI sO sN v = true then tri sL v else [])))) (nI fr) (nI (mxf r (if cnt sI sO sN v = true then tri sL v else []) w)) (nI (v + 1)) z := by
  obtain ⟨m, rfl⟩ : ∃ m, n = m + 4 := ⟨n - 4, by omega⟩
  by_cases hc : cnt sI sO sN v = true
  · have b : ∀ f, f ≤ 2 → (fT (sL 0 v) f).length ≤ 24 := fun f hf => (tri_bd hV hlt _ (tri_mem.mpr ⟨f, hf, rfl⟩)).2
    have b0 := b 0 (by omega)
    have b1 := b 1 (by omega)
    have e0 := r_L69s h hv hV hnS hnV (m + 4) hn k16 k57 i1 li last hli held (f := 0) hlt (by omega) hr hfr hw hc (m + 3)
    rw [nI_0] at e0
    rw [e0, r_L69s h hv hV hnS hnV (m + 4) hn k16 k57 i1 li last hli _ (f := 0 + 1) hlt (by omega) hr hfr (ite_bd (Nat.le_trans (b 0 (by omega)) (by omega)) hw) hc (m + 2), r_L69s h hv hV hnS hnV (m + 4) hn k16 k57 i1 li last hli _ (f := 0 + 1 + 1) hlt (by omega) hr hfr (ite_bd (Nat.le_trans (b 1 (by omega)) (by omega)) (ite_bd (Nat.le_trans (b 0 (by omega)) (by omega)) hw)) hc (m + 1), fRef_cover_L69, if_pos (show 3 ≤ nI (0 + 1 + 1 + 1) from by decide), nI_1, if_pos hc]
    congr 2
    cases held <;> cases last <;> simp [my, tri, Bool.or_assoc]
  · have ct := r_counts h hv hV hnS hnV (m + 4) hlt
    rw [if_neg hc] at ct
    rw [fRef_cover_L69, if_neg (show ¬ (3 : Int32) ≤ 0 from by decide), r_is h, Option.bind_some, q_bp ct, if_pos rfl, nI_1, if_neg hc]
    have : (held || (!last && my r [])) = held := by cases held <;> cases last <;> rfl
    rw [this]
    rfl
theorem r_L57 (h : R2 z bd iv fa) (hv : RV iv fa sI sO sL sN) (hV : VS sI sO sL sN) (hnS : sN 0 0 ≤ 10) (hnV : sN 0 3 ≤ 24) (n : Nat) (hn : 1000 < n) (k16 : Nat → Int32 → Int32 → Int32 → Int32 → gS → Option gS) (i1 li : Int32) (last : Bool) (hli : li = 0 ↔ last = false) {fr : Nat} {r : List Int32} (hr : ∀ j, j < r.length → r[j]? = some (fa 20 (fr + j))) (hfr : fr + r.length ≤ 3600) : ∀ (k v : Nat), v ≤ sN 0 3 → sN 0 3 < v + k → fRef_cover_L57 n k16 k (bd 0) i1 li (nI (fr + r.length)) (hB (!last && my r (rLs sI sO sL sN v))) (nI fr) (nI (mxf r (rLs sI sO sL sN v) 0)) (nI v) z = fRef_cover_L57 n k16 1 (bd 0) i1 li (nI (fr + r.length)) (hB (!last && my r (rLs sI sO sL sN (sN 0 3)))) (nI fr) (nI (mxf r (rLs sI sO sL sN (sN 0 3)) 0)) (nI (sN 0 3)) z := by
  have i3 : g_fI z (bd 0) 9 3 = some (nI (sN 0 3)) := by rw [r_I h 3 rfl, hv.2.2.1]
  intro k
  induction k with
  | zero => intro v q1 q2; omega
  | succ k ih =>
    intro v q1 q2
    by_cases c0 : sN 0 3 ≤ v
    · have e : v = sN 0 3 := by omega
      subst e
      rw [fRef_cover_L57, fRef_cover_L57, i3, Option.bind_some, if_pos (Int32.le_refl _), Option.bind_some, if_pos (Int32.le_refl _)]
    · rw [fRef_cover_L57, i3, Option.bind_some, if_neg (fun q => c0 ((nI_leI (by omega) (by omega)).mp q)), r_L69 h hv hV hnS hnV n hn k16 _ i1 li last hli _ (by omega) hr hfr (mxf_bd (by omega) (fun f hf => (rLs_bd hV (by omega) f hf).2))]
      rw [← ih (v + 1) (by omega) (by omega), rLs, mxf_app]
      congr 2
      cases last <;> simp [my]
end RC
