/-! SCAN: the first place where a form is there whole, and which -/
def ll (sL : Nat → Nat → List Int32) (b : Option (Nat × Nat × Nat × Nat)) : Nat := match b with
  | none => 0
  | some e => (eT sL e).length
def lwe (sL : Nat → Nat → List Int32) (r : List Int32) : List (Nat × Nat × Nat × Nat) → Option (Nat × Nat × Nat × Nat) → Option (Nat × Nat × Nat × Nat)
  | [], b => b
  | e :: es, b => lwe sL r es (if fW (eT sL e) r = true ∧ ll sL b < (eT sL e).length then some e else b)
theorem lwe_app (sL : Nat → Nat → List Int32) (r : List Int32) : ∀ (A B : List (Nat × Nat × Nat × Nat)) (b : Option (Nat × Nat × Nat × Nat)), lwe sL r (A ++ B) b = lwe sL r B (lwe sL r A b) := by
  intro A
  induction A with
  | nil => intro B b; rfl
  | cons e A ih => intro B b; exact ih B _
theorem lwi_lwe (sL : Nat → Nat → List Int32) (r : List Int32) : ∀ (es : List (Nat × Nat × Nat × Nat)) (j : Nat) (b : Option (Nat × (Nat × Nat × Nat × Nat))), (lwi sL r es j b).map Prod.snd = lwe sL r es (b.map Prod.snd) := by
  intro es
  induction es with
  | nil => intro j b; rfl
  | cons e es ih =>
    intro j b
    have hb : ll sL (b.map Prod.snd) = lwl sL b := by
      cases b with
      | none => rfl
      | some p => rfl
    show (lwi sL r es (j + 1) _).map Prod.snd = lwe sL r es _
    rw [ih, hb]
    congr 1
    by_cases q : fW (eT sL e) r = true ∧ lwl sL b < (eT sL e).length
    · rw [if_pos q, if_pos q]; rfl
    · rw [if_neg q, if_neg q]
theorem lwe_mem (sL : Nat → Nat → List Int32) (r : List Int32) : ∀ (es : List (Nat × Nat × Nat × Nat)) (b : Option (Nat × Nat × Nat × Nat)) (e : Nat × Nat × Nat × Nat), lwe sL r es b = some e → b = some e ∨ e ∈ es := by
  intro es
  induction es with
  | nil => intro b e h; exact Or.inl h
  | cons g es ih =>
    intro b e h
    rcases ih _ e h with w | w
    · by_cases q : fW (eT sL g) r = true ∧ ll sL b < (eT sL g).length
      · rw [if_pos q] at w
        cases w
        exact Or.inr List.mem_cons_self
      · rw [if_neg q] at w
        exact Or.inl w
    · exact Or.inr (List.mem_cons_of_mem _ w)
def sc (sL : Nat → Nat → List Int32) (es : List (Nat × Nat × Nat × Nat)) (tp : List Int32) : Nat → Nat → Option (Nat × (Nat × Nat × Nat × Nat))
  | 0, _ => none
  | m + 1, f => match lwe sL (tp.drop f) es none with
    | some e => some (f, e)
    | none => sc sL es tp m (f + 1)
/-- the reference's order: the values of one secret, as they were set -/
def rE (sI : Nat → Nat → Int32) (sO : Nat → Nat → Option Nat) (sN : Nat → Nat → Nat) (s v : Nat) : List (Nat × Nat × Nat × Nat) := if sN 5 v = s ∧ cnt sI sO sN v = true then fE s v (if sO 0 s = some v then 0 else 1) else []
def rS (sI : Nat → Nat → Int32) (sO : Nat → Nat → Option Nat) (sN : Nat → Nat → Nat) (s : Nat) : Nat → List (Nat × Nat × Nat × Nat)
  | 0 => []
  | v + 1 => rS sI sO sN s v ++ rE sI sO sN s v
theorem rS_skip {sI : Nat → Nat → Int32} {sO : Nat → Nat → Option Nat} {sN : Nat → Nat → Nat} {s a : Nat} : ∀ m, (∀ v, a ≤ v → v < a + m → rE sI sO sN s v = []) → rS sI sO sN s (a + m) = rS sI sO sN s a := by
  intro m
  induction m with
  | zero => intro _; rfl
  | succ m ih =>
    intro h
    rw [show a + (m + 1) = (a + m) + 1 by omega, rS, ih (fun v p q => h v p (by omega)), h (a + m) (by omega) (by omega), List.append_nil]
theorem rS_all {sI : Nat → Nat → Int32} {sO : Nat → Nat → Option Nat} {sL : Nat → Nat → List Int32} {sN : Nat → Nat → Nat} (hV : VS sI sO sL sN) {s : Nat} (hs : s < sN 0 0) : rS sI sO sN s (sN 0 3) = fOd sI sO s ++ fNw sO s := by
  obtain ⟨-, p2, p3, -⟩ := hV.2.2.2.2.1 s hs
  have emp : ∀ v, sO 0 s ≠ some v → ¬ (sO 1 s = some v ∧ ¬ sI 3 s ≤ sI 7 0) → rE sI sO sN s v = [] := by
    intro v h1 h2
    unfold rE
    rw [if_neg]
    rintro ⟨a, b⟩
    rcases cnt_iff.mp b with c | c
    · rw [a] at c
      exact h1 c
    · rw [a] at c
      exact h2 c
  cases e0 : sO 0 s with
  | none =>
    have e1 : sO 1 s = none := by
      cases e1 : sO 1 s with
      | none => rfl
      | some u =>
        obtain ⟨-, -, w, hw, -⟩ := p3 u e1
        rw [e0] at hw
        cases hw
    have := rS_skip (sI := sI) (sO := sO) (sN := sN) (s := s) (a := 0) (sN 0 3) (fun v _ _ => emp v (by rw [e0]; simp) (by rw [e1]; simp))
    rw [Nat.zero_add] at this
    rw [this]
    unfold fOd fNw
    rw [e0, e1]
    rfl
  | some w =>
    obtain ⟨w1, w2⟩ := p2 w e0
    have rw_ : rE sI sO sN s w = fE s w 0 := by
      unfold rE
      rw [if_pos ⟨w2, cnt_iff.mpr (Or.inl (by rw [w2]; exact e0))⟩, if_pos e0]
    have fn : fNw sO s = fE s w 0 := by unfold fNw; rw [e0]
    have tail : rS sI sO sN s (sN 0 3) = rS sI sO sN s w ++ fE s w 0 := by
      have := rS_skip (sI := sI) (sO := sO) (sN := sN) (s := s) (a := w + 1) (sN 0 3 - (w + 1)) (fun v a b => emp v (by rw [e0]; intro q; cases q; omega) (by
        rintro ⟨a1, -⟩
        obtain ⟨-, -, w', hw', hlt⟩ := p3 v a1
        rw [e0] at hw'
        cases hw'
        omega))
      rw [show w + 1 + (sN 0 3 - (w + 1)) = sN 0 3 by omega] at this
      rw [this, rS, rw_]
    rw [tail, fn]
    congr 1
    by_cases c : ∃ u, sO 1 s = some u ∧ ¬ sI 3 s ≤ sI 7 0
    · obtain ⟨u, u1, u2⟩ := c
      obtain ⟨u3, u4, w', hw', hlt⟩ := p3 u u1
      rw [e0] at hw'
      cases hw'
      have ne : ¬ sO 0 s = some u := by rw [e0]; intro q; cases q; omega
      have ru_ : rE sI sO sN s u = fE s u 1 := by
        unfold rE
        rw [if_pos ⟨u4, cnt_iff.mpr (Or.inr ⟨by rw [u4]; exact u1, by rw [u4]; exact u2⟩)⟩, if_neg ne]
      have t1 := rS_skip (sI := sI) (sO := sO) (sN := sN) (s := s) (a := u + 1) (w - (u + 1)) (fun v a b => emp v (by rw [e0]; intro q; cases q; omega) (by
        rintro ⟨a1, -⟩
        rw [u1] at a1
        cases a1
        omega))
      rw [show u + 1 + (w - (u + 1)) = w by omega] at t1
      have t2 := rS_skip (sI := sI) (sO := sO) (sN := sN) (s := s) (a := 0) u (fun v a b => emp v (by rw [e0]; intro q; cases q; omega) (by
        rintro ⟨a1, -⟩
        rw [u1] at a1
        cases a1
        omega))
      rw [Nat.zero_add] at t2
      rw [t1, rS, t2, ru_]
      unfold fOd
      rw [u1]
      simp only [if_neg u2]
      rfl
    · have t2 := rS_skip (sI := sI) (sO := sO) (sN := sN) (s := s) (a := 0) w (fun v a b => emp v (by rw [e0]; intro q; cases q; omega) (fun q => c ⟨v, q.1, q.2⟩))
      rw [Nat.zero_add] at t2
      rw [t2]
      unfold fOd
      cases e1 : sO 1 s with
      | none => rfl
      | some u =>
        by_cases c2 : sI 3 s ≤ sI 7 0
        · simp only [if_pos c2]
          rfl
        · exact absurd ⟨u, e1, c2⟩ c
/-- the leak, in the reference's fields -/
def ivb (iv : Nat → Int32) (b : Option (Nat × Nat × Nat × Nat)) : Nat → Int32 := match b with
  | none => iv
  | some e => up1 (up1 (up1 iv 33 (nI e.1)) 34 (nI e.2.2.1)) 35 (nI e.2.2.2)
theorem ivb_up (iv : Nat → Int32) (b : Option (Nat × Nat × Nat × Nat)) (e : Nat × Nat × Nat × Nat) : up1 (up1 (up1 (ivb iv b) 33 (nI e.1)) 34 (nI e.2.2.1)) 35 (nI e.2.2.2) = ivb iv (some e) := by
  cases b with
  | none => rfl
  | some g =>
    funext t
    unfold ivb up1
    by_cases q5 : t = 35
    · simp [q5]
    · by_cases q4 : t = 34
      · simp [q4]
      · by_cases q3 : t = 33
        · simp [q3]
        · simp [q3, q4, q5]
theorem ivb_ne {iv : Nat → Int32} {b : Option (Nat × Nat × Nat × Nat)} {t : Nat} (h : t < 33) : ivb iv b t = iv t := by
  cases b with
  | none => rfl
  | some g =>
    have q5 : ¬ t = 35 := by omega
    have q4 : ¬ t = 34 := by omega
    have q3 : ¬ t = 33 := by omega
    simp [ivb, up1, q3, q4, q5]
section RSC
variable {bd : Nat → Nat} {iv : Nat → Int32} {fa : Nat → Nat → Int32} {sI : Nat → Nat → Int32} {sO : Nat → Nat → Option Nat} {sL : Nat → Nat → List Int32} {sN : Nat → Nat → Nat}
theorem RV.ivb (h : RV iv fa sI sO sL sN) (b : Option (Nat × Nat × Nat × Nat)) : RV (ivb iv b) fa sI sO sL sN := by
  obtain ⟨a1, a2, a3, r⟩ := h
  exact ⟨by rw [ivb_ne (by omega)]; exact a1, by rw [ivb_ne (by omega)]; exact a2, by rw [ivb_ne (by omega)]; exact a3, r⟩
/-- one form -/
theorem r_L51s (hv : RV iv fa sI sO sL sN) (hV : VS sI sO sL sN) (hnS : sN 0 0 ≤ 10) (hnV : sN 0 3 ≤ 24) (n : Nat) (hn : 1000 < n) {s v f fr o : Nat} {r : List Int32} {b : Option (Nat × Nat × Nat × Nat)} {z : gS} (h : R2 z bd (ivb iv b) fa) (hs : s < sN 0 0) (hlt : v < sN 0 3) (hf : f ≤ 2) (hw : sN 5 v = s) (hc : cnt sI sO sN v = true) (ho : o = if sO 0 s = some v then 0 else 1) (hr : ∀ j, j < r.length → r[j]? = some (fa 17 (fr + j))) (hfr : fr + r.length ≤ 300) (hb : ll sL b ≤ 24) (k17 : Nat → Int32 → Int32 → gS → Option (Int32 × gS)) (k27 : Nat → Int32 → Int32 → Int32 → Int32 → gS → Option (Int32 × gS)) (k39 : Nat → Int32 → Int32 → Int32 → Int32 → Int32 → gS → Option (Int32 × gS)) (k : Nat) : ∃ z1 : gS, fRef_scan_L51 n k17 k27 k39 (k + 1) (bd 0) (nI (fr + r.length)) (nI fr) (nI (ll sL b)) (nI s) (nI v) (nI f) z = fRef_scan_L51 n k17 k27 k39 k (bd 0) (nI (fr + r.length)) (nI fr) (nI (ll sL (lwe sL r [(s, v, f, o)] b))) (nI s) (nI v) (nI (f + 1)) z1 ∧ R2 z1 bd (ivb iv (lwe sL r [(s, v, f, o)] b)) fa ∧ z1.2 = z.2 := by
  have hv' := hv.ivb b
  have hll : (fT (sL 0 v) f).length ≤ 24 := (tri_bd hV hlt _ (tri_mem.mpr ⟨f, hf, rfl⟩)).2
  have ct := r_counts h hv' hV hnS hnV n hlt
  rw [if_pos hc] at ct
  have cmm := r_cm h hv' hV hnV n hn hlt hf (w := 17) (by unfold aK; omega) rfl hr hfr
  obtain ⟨c1, c2, c3⟩ := cm_ag (fT (sL 0 v) f) r
  obtain ⟨p1, p2, p3⟩ := hv.2.2.2.1 v hlt
  have el : eT sL (s, v, f, o) = fT (sL 0 v) f := rfl
  have elw : lwe sL r [(s, v, f, o)] b = if fW (fT (sL 0 v) f) r = true ∧ ll sL b < (fT (sL 0 v) f).length then some (s, v, f, o) else b := rfl
  have hlz : ∀ b', ll sL b' = ll sL b' := fun _ => rfl
  rw [fRef_scan_L51, if_neg (show ¬ 3 ≤ nI f from fun q => absurd ((nI_leI (a := 3) (by omega) (by omega)).mp q) (by omega)), r_R h 7 rfl, Option.bind_some, Option.bind_some, r_ld h (k := 7) (ty := .int) (by unfold aK; omega) rfl (by show _ < 24; omega), p1, Option.bind_some, if_pos (by rw [hw]), r_is h, Option.bind_some, q_bp ct, if_neg (by decide), r_is h, Option.bind_some, q_bp (r_fl h hv' hnV n hlt hf), elw]
  by_cases g0 : (fT (sL 0 v) f).length ≤ ll sL b
  · rw [if_pos ((nI_leI (by omega) (by omega)).mpr g0), if_neg (fun q => by omega), nI_1]
    exact ⟨z, rfl, h, rfl⟩
  · rw [if_neg (fun q => g0 ((nI_leI (by omega) (by omega)).mp q)), r_R h 17 rfl, Option.bind_some, Option.bind_some, r_is h, Option.bind_some, q_bp cmm]
    by_cases g1 : fW (fT (sL 0 v) f) r = true
    · have ge := cm_W.mpr g1
      obtain ⟨z1, e1, h1, s1⟩ := r_p33 h (nI s)
      obtain ⟨z2, e2, h2, s2⟩ := r_p34 h1 (nI f)
      obtain ⟨z3, e3, h3, s3⟩ := r_p35 h2 (nI o)
      have up : up1 (up1 (up1 (ivb iv b) 33 (nI s)) 34 (nI f)) 35 (nI o) = ivb iv (some (s, v, f, o)) := ivb_up iv b (s, v, f, o)
      rw [up] at h3
      obtain ⟨q13, -, -⟩ := hv.2.2.2.2 s hs
      have e0 : nI v = oI (sO 0 s) ↔ sO 0 s = some v := oI_eq (by omega) (fun w hw => by have := ((hV.2.2.2.2.1 s hs).2.1 w hw).1; omega)
      rw [if_pos ((nI_leI (by omega) (by omega)).mpr (by omega)), e1, Option.bind_some, e2, Option.bind_some, r_R h2 13 rfl, Option.bind_some, Option.bind_some, r_ld h2 (k := 13) (ty := .int) (by unfold aK; omega) rfl (by show _ < 10; omega), q13, Option.bind_some, if_pos (⟨g1, by omega⟩ : _ ∧ _)]
      refine ⟨z3, ?_, h3, by rw [s3, s2, s1]⟩
      by_cases g2 : sO 0 s = some v
      · rw [if_pos g2] at ho
        subst ho
        have e3' : g_pF z2 (bd 0) 9 35 (.int 0) = some z3 := e3
        rw [if_pos (e0.mpr g2).symm, e3', Option.bind_some, nI_1]
        rfl
      · rw [if_neg g2] at ho
        subst ho
        have e3' : g_pF z2 (bd 0) 9 35 (.int 1) = some z3 := e3
        rw [if_neg (fun q => g2 (e0.mp q.symm)), e3', Option.bind_some, nI_1]
        rfl
    · have gn : ¬ cm (fT (sL 0 v) f) r = (fT (sL 0 v) f).length := fun q => g1 (cm_W.mp q)
      rw [if_neg (fun q => gn (by have := (nI_leI (by omega) (by omega)).mp q; omega)), if_neg (fun q => g1 q.1), nI_1]
      exact ⟨z, rfl, h, rfl⟩
theorem lwe_bd {r : List Int32} : ∀ (A : List (Nat × Nat × Nat × Nat)) (b : Option (Nat × Nat × Nat × Nat)), ll sL b ≤ 24 → (∀ e ∈ A, (eT sL e).length ≤ 24) → ll sL (lwe sL r A b) ≤ 24 := by
  intro A
  induction A with
  | nil => intro b h _; exact h
  | cons e A ih =>
    intro b h hA
    refine ih _ ?_ (fun g hg => hA g (List.mem_cons_of_mem _ hg))
    by_cases q : fW (eT sL e) r = true ∧ ll sL b < (eT sL e).length
    · rw [if_pos q]; exact hA e List.mem_cons_self
    · rw [if_neg q]; exact h
theorem fE_bd (hV : VS sI sO sL sN) {s v o : Nat} (hlt : v < sN 0 3) : ∀ e ∈ fE s v o, (eT sL e).length ≤ 24 := by
  intro e he
  obtain ⟨-, h2, h3, -⟩ := fE_mem.mp he
  unfold eT
  rw [h2]
  exact (tri_bd hV hlt _ (tri_mem.mpr ⟨_, h3, rfl⟩)).2
theorem rE_bd (hV : VS sI sO sL sN) {s v : Nat} (hlt : v < sN 0 3) : ∀ e ∈ rE sI sO sN s v, (eT sL e).length ≤ 24 := by
  intro e he
  unfold rE at he
  split at he
  · exact fE_bd hV hlt e he
  · simp at he
/-- one value -/
theorem r_L51 (hv : RV iv fa sI sO sL sN) (hV : VS sI sO sL sN) (hnS : sN 0 0 ≤ 10) (hnV : sN 0 3 ≤ 24) (n : Nat) (hn : 1000 < n) {s v fr : Nat} {r : List Int32} {b : Option (Nat × Nat × Nat × Nat)} {z : gS} (h : R2 z bd (ivb iv b) fa) (hs : s < sN 0 0) (hlt : v < sN 0 3) (hr : ∀ j, j < r.length → r[j]? = some (fa 17 (fr + j))) (hfr : fr + r.length ≤ 300) (hb : ll sL b ≤ 24) (k17 : Nat → Int32 → Int32 → gS → Option (Int32 × gS)) (k27 : Nat → Int32 → Int32 → Int32 → Int32 → gS → Option (Int32 × gS)) (k39 : Nat → Int32 → Int32 → Int32 → Int32 → Int32 → gS → Option (Int32 × gS)) : ∃ z1 : gS, fRef_scan_L51 n k17 k27 k39 n (bd 0) (nI (fr + r.length)) (nI fr) (nI (ll sL b)) (nI s) (nI v) 0 z = k39 (bd 0) (nI (fr + r.length)) (nI fr) (nI (ll sL (lwe sL r (rE sI sO sN s v) b))) (nI s) (nI (v + 1)) z1 ∧ R2 z1 bd (ivb iv (lwe sL r (rE sI sO sN s v) b)) fa ∧ z1.2 = z.2 := by
  obtain ⟨m, rfl⟩ : ∃ m, n = m + 4 := ⟨n - 4, by omega⟩
  by_cases hq : sN 5 v = s ∧ cnt sI sO sN v = true
  · obtain ⟨hw, hc⟩ := hq
    obtain ⟨o, ho⟩ : ∃ o, o = if sO 0 s = some v then 0 else 1 := ⟨_, rfl⟩
    have er : rE sI sO sN s v = [(s, v, 0, o)] ++ [(s, v, 1, o)] ++ [(s, v, 2, o)] := by
      unfold rE
      rw [if_pos ⟨hw, hc⟩, ← ho]
      rfl
    have bd1 : ∀ f, f ≤ 2 → ∀ e ∈ [(s, v, f, o)], (eT sL e).length ≤ 24 := fun f hf e he => fE_bd hV (s := s) (o := o) hlt e (fE_mem.mpr (by rw [List.mem_singleton.mp he]; exact ⟨rfl, rfl, hf, rfl⟩))
    obtain ⟨z1, e1, h1, s1⟩ := r_L51s hv hV hnS hnV (m + 4) hn (f := 0) h hs hlt (by omega) hw hc ho hr hfr hb k17 k27 k39 (m + 3)
    obtain ⟨z2, e2, h2, s2⟩ := r_L51s hv hV hnS hnV (m + 4) hn (f := 1) h1 hs hlt (by omega) hw hc ho hr hfr (lwe_bd _ _ hb (bd1 0 (by omega))) k17 k27 k39 (m + 2)
    obtain ⟨z3, e3, h3, s3⟩ := r_L51s hv hV hnS hnV (m + 4) hn (f := 2) h2 hs hlt (by omega) hw hc ho hr hfr (lwe_bd _ _ (lwe_bd _ _ hb (bd1 0 (by omega))) (bd1 1 (by omega))) k17 k27 k39 (m + 1)
    rw [er, lwe_app, lwe_app]
    refine ⟨z3, ?_, h3, by rw [s3, s2, s1]⟩
    rw [nI_0] at e1
    rw [e1, e2, e3, fRef_scan_L51, if_pos (show 3 ≤ nI (2 + 1) from by decide), nI_1]
  · have er : rE sI sO sN s v = [] := by unfold rE; rw [if_neg hq]
    rw [er]
    refine ⟨z, ?_, h, rfl⟩
    obtain ⟨p1, p2, p3⟩ := hv.2.2.2.1 v hlt
    have hs5 := (hV.2.2.2.1 v hlt).2.2.2
    rw [fRef_scan_L51, if_neg (show ¬ (3 : Int32) ≤ 0 from by decide), r_R h 7 rfl, Option.bind_some, Option.bind_some, r_ld h (k := 7) (ty := .int) (by unfold aK; omega) rfl (by show _ < 24; omega), p1, Option.bind_some]
    by_cases g0 : sN 5 v = s
    · have ct := r_counts h (hv.ivb b) hV hnS hnV (m + 4) hlt
      rw [if_neg (fun q => hq ⟨g0, q⟩)] at ct
      rw [if_pos (by rw [g0]), r_is h, Option.bind_some, q_bp ct, if_pos rfl, nI_1]
      rfl
    · rw [if_neg (fun q => g0 ((nI_eq (by omega) (by omega)).mp q)), nI_1]
      rfl
/-- one secret -/
theorem r_L39 (hv : RV iv fa sI sO sL sN) (hV : VS sI sO sL sN) (hnS : sN 0 0 ≤ 10) (hnV : sN 0 3 ≤ 24) (n : Nat) (hn : 1000 < n) {s fr : Nat} {r : List Int32} {b : Option (Nat × Nat × Nat × Nat)} (hs : s < sN 0 0) (hr : ∀ j, j < r.length → r[j]? = some (fa 17 (fr + j))) (hfr : fr + r.length ≤ 300) (hb : ll sL b ≤ 24) (k17 : Nat → Int32 → Int32 → gS → Option (Int32 × gS)) (k27 : Nat → Int32 → Int32 → Int32 → Int32 → gS → Option (Int32 × gS)) : ∀ (k v : Nat) (z : gS), v ≤ sN 0 3 → sN 0 3 < v + k → R2 z bd (ivb iv (lwe sL r (rS sI sO sN s v) b)) fa → ∃ z1 : gS, fRef_scan_L39 n k17 k27 k (bd 0) (nI (fr + r.length)) (nI fr) (nI (ll sL (lwe sL r (rS sI sO sN s v) b))) (nI s) (nI v) z = k27 (bd 0) (nI (fr + r.length)) (nI fr) (nI (ll sL (lwe sL r (rS sI sO sN s (sN 0 3)) b))) (nI (s + 1)) z1 ∧ R2 z1 bd (ivb iv (lwe sL r (rS sI sO sN s (sN 0 3)) b)) fa ∧ z1.2 = z.2 := by
  have rb : ∀ v, v ≤ sN 0 3 → ∀ e ∈ rS sI sO sN s v, (eT sL e).length ≤ 24 := by
    intro v
    induction v with
    | zero => intro _ e he; simp [rS] at he
    | succ v ih =>
      intro hv e he
      rw [rS] at he
      rcases List.mem_append.mp he with w | w
      · exact ih (by omega) e w
      · exact rE_bd hV (by omega) e w
  intro k
  induction k with
  | zero => intro v z q1 q2; omega
  | succ k ih =>
    intro v z q1 q2 h
    have i3 : g_fI z (bd 0) 9 3 = some (nI (sN 0 3)) := by rw [r_I h 3 rfl, (hv.ivb _).2.2.1]
    rw [fRef_scan_L39, i3, Option.bind_some]
    by_cases c0 : sN 0 3 ≤ v
    · have e : v = sN 0 3 := by omega
      subst e
      rw [if_pos (Int32.le_refl _), nI_1]
      exact ⟨z, rfl, h, rfl⟩
    · obtain ⟨z1, e1, h1, s1⟩ := r_L51 hv hV hnS hnV n hn h hs (v := v) (by omega) hr hfr (lwe_bd _ _ hb (rb v q1)) k17 k27 (fun a0b i1b i2b i3b i4b i5b z => fRef_scan_L39 n k17 k27 k a0b i1b i2b i3b i4b i5b z)
      rw [← lwe_app] at e1 h1
      obtain ⟨z2, e2, h2, s2⟩ := ih (v + 1) z1 (by omega) (by omega) h1
      refine ⟨z2, ?_, h2, s2.trans s1⟩
      rw [if_neg (fun q => c0 ((nI_leI (by omega) (by omega)).mp q)), e1]
      exact e2
/-- all secrets -/
theorem r_L27 (hv : RV iv fa sI sO sL sN) (hV : VS sI sO sL sN) (hnS : sN 0 0 ≤ 10) (hnV : sN 0 3 ≤ 24) (n : Nat) (hn : 1000 < n) {fr : Nat} {r : List Int32} (hr : ∀ j, j < r.length → r[j]? = some (fa 17 (fr + j))) (hfr : fr + r.length ≤ 300) (k17 : Nat → Int32 → Int32 → gS → Option (Int32 × gS)) : ∀ (k s : Nat) (z : gS), s ≤ sN 0 0 → sN 0 0 < s + k → R2 z bd (ivb iv (lwe sL r (fLs sI sO s) none)) fa → ∃ z1 : gS, fRef_scan_L27 n k17 k (bd 0) (nI (fr + r.length)) (nI fr) (nI (ll sL (lwe sL r (fLs sI sO s) none))) (nI s) z = (if nI (ll sL (lwe sL r (fLs sI sO (sN 0 0)) none)) ≤ 0 then k17 (bd 0) (nI (fr + r.length)) (nI (fr + 1)) z1 else some (nI fr, z1)) ∧ R2 z1 bd (ivb iv (lwe sL r (fLs sI sO (sN 0 0)) none)) fa ∧ z1.2 = z.2 := by
  intro k
  induction k with
  | zero => intro s z q1 q2; omega
  | succ k ih =>
    intro s z q1 q2 h
    have i2 : g_fI z (bd 0) 9 2 = some (nI (sN 0 0)) := by rw [r_I h 2 rfl, (hv.ivb _).2.1]
    rw [fRef_scan_L27, i2, Option.bind_some]
    by_cases c0 : sN 0 0 ≤ s
    · have e : s = sN 0 0 := by omega
      subst e
      rw [if_pos (Int32.le_refl _), nI_1]
      exact ⟨z, rfl, h, rfl⟩
    · have hs : s < sN 0 0 := by omega
      have fb : ll sL (lwe sL r (fLs sI sO s) none) ≤ 24 := lwe_bd _ _ (Nat.zero_le _) (fun e he => by
        have h1 := (fLs_mem (sI := sI) (sO := sO) s).mp he
        exact (fLs_ok hV e ((fLs_mem _).mpr ⟨by omega, h1.2⟩)).2.2.2)
      obtain ⟨z1, e1, h1, s1⟩ := r_L39 hv hV hnS hnV n hn (b := lwe sL r (fLs sI sO s) none) hs hr hfr fb k17 (fun a0b i1b i2b i3b i4b z => fRef_scan_L27 n k17 k a0b i1b i2b i3b i4b z) n 0 z (by omega) (by omega) h
      have el : lwe sL r (fOd sI sO s ++ fNw sO s) (lwe sL r (fLs sI sO s) none) = lwe sL r (fLs sI sO (s + 1)) none := (lwe_app sL r (fLs sI sO s) _ none).symm
      rw [rS_all hV hs, el] at e1 h1
      obtain ⟨z2, e2, h2, s2⟩ := ih (s + 1) z1 (by omega) (by omega) h1
      refine ⟨z2, ?_, h2, s2.trans s1⟩
      rw [if_neg (fun q => c0 ((nI_leI (by omega) (by omega)).mp q))]
      exact e1.trans e2
end RSC
