/-! the parts of the class's state, carried over to tables that agree where it matters -/
section CG
variable {ad ad' : Nat → Nat → Nat} {ce ce' : Nat → Nat → gE} {sI sI' : Nat → Nat → Int32} {sO sO' : Nat → Nat → Option Nat} {sL sL' : Nat → Nat → List Int32} {sN sN' : Nat → Nat → Nat} {au : List (Int32 × Int32 × Int32)} {z : gS}
theorem cSec.cg (h : cSec ad ce sI sO sN) (hn : sN' 0 0 = sN 0 0) (h1 : ce' 1 0 = ce 1 0) (h2 : ∀ i, i < sN 0 0 → ce' 13 i = ce 13 i) (ha : ∀ i, i < sN 0 0 → ad' 13 i = ad 13 i) (hs : ∀ i, i < sN 0 0 → cS ad' sI' sO' i = cS ad sI sO i) : cSec ad' ce' sI' sO' sN' := by
  obtain ⟨g1, ⟨g, g2, g3⟩, g4⟩ := h
  unfold cSec
  rw [hn]
  exact ⟨g1, ⟨g, h1.trans g2, fun i hi => by rw [ha i hi]; exact g3 i hi⟩, fun i hi => by rw [h2 i hi, g4 i hi, hs i hi]⟩
theorem cVal.cg (h : cVal ad ce sL sN) (hn : sN' 0 3 = sN 0 3) (h1 : ∀ t v, 22 ≤ t → t ≤ 28 → v < sN 0 3 → ce' t v = ce t v ∧ ad' t v = ad t v) (hl : ∀ v, v < sN 0 3 → sL' 0 v = sL 0 v) : cVal ad' ce' sL' sN' := by
  obtain ⟨g1, g2⟩ := h
  unfold cVal
  rw [hn]
  refine ⟨g1, fun v hv => ?_⟩
  obtain ⟨a1, a2, a3, a4⟩ := g2 v hv
  rw [hl v hv, (h1 22 v (by omega) (by omega) hv).1, (h1 23 v (by omega) (by omega) hv).2, (h1 25 v (by omega) (by omega) hv).2, (h1 27 v (by omega) (by omega) hv).2]
  exact ⟨a1, a2.keep (h1 24 v (by omega) (by omega) hv).2 (h1 23 v (by omega) (by omega) hv).1 (h1 24 v (by omega) (by omega) hv).1, a3.keep (h1 26 v (by omega) (by omega) hv).2 (h1 25 v (by omega) (by omega) hv).1 (h1 26 v (by omega) (by omega) hv).1, a4.keep (h1 28 v (by omega) (by omega) hv).2 (h1 27 v (by omega) (by omega) hv).1 (h1 28 v (by omega) (by omega) hv).1⟩
theorem cStp.cg (h : cStp ad ce sI sO sL sN) (hn : sN' 0 1 = sN 0 1) (h0 : ce' 2 0 = ce 2 0) (h1 : ∀ t i, 14 ≤ t → t ≤ 20 → i < sN 0 1 → ce' t i = ce t i ∧ ad' t i = ad t i) (hv : ∀ i s, i < sN 0 1 → s < 10 → (sO' (2 + i) s).map (ad' 22) = (sO (2 + i) s).map (ad 22)) (hs : ∀ i, i < sN 0 1 → sI' 5 i = sI 5 i ∧ sN' 1 i = sN 1 i ∧ sN' 2 i = sN 2 i ∧ sL' 1 i = sL 1 i ∧ sL' 2 i = sL 2 i) : cStp ad' ce' sI' sO' sL' sN' := by
  obtain ⟨g1, ⟨g, g2, g3⟩, g4⟩ := h
  unfold cStp
  rw [hn]
  refine ⟨g1, ⟨g, h0.trans g2, fun i hi => by rw [(h1 14 i (by omega) (by omega) hi).2]; exact g3 i hi⟩, fun i hi => ?_⟩
  obtain ⟨a1, ⟨ga, a2, a3⟩, a4, a5, a6⟩ := g4 i hi
  obtain ⟨s1, s2, s3, s4, s5⟩ := hs i hi
  rw [(h1 14 i (by omega) (by omega) hi).1, (h1 15 i (by omega) (by omega) hi).1, (h1 16 i (by omega) (by omega) hi).1, (h1 15 i (by omega) (by omega) hi).2, (h1 16 i (by omega) (by omega) hi).2, (h1 17 i (by omega) (by omega) hi).2, (h1 19 i (by omega) (by omega) hi).2, s1, s2, s3, s4, s5]
  exact ⟨a1, ⟨ga, a2, fun s hs => (a3 s hs).trans (hv i s hi hs).symm⟩, a4, a5.keep (h1 18 i (by omega) (by omega) hi).2 (h1 17 i (by omega) (by omega) hi).1 (h1 18 i (by omega) (by omega) hi).1, a6.keep (h1 20 i (by omega) (by omega) hi).2 (h1 19 i (by omega) (by omega) hi).1 (h1 20 i (by omega) (by omega) hi).1⟩
theorem cTok.cg (h : cTok ad ce sI sN) (hn : sN' 0 2 = sN 0 2) (h0 : ce' 3 0 = ce 3 0) (h1 : ∀ i, i < sN 0 2 → ce' 21 i = ce 21 i ∧ ad' 21 i = ad 21 i) (hs : ∀ i, i < sN 0 2 → sN' 3 i = sN 3 i ∧ ad' 22 (sN' 4 i) = ad 22 (sN 4 i) ∧ sI' 6 i = sI 6 i) : cTok ad' ce' sI' sN' := by
  obtain ⟨g1, ⟨g, g2, g3⟩, g4⟩ := h
  unfold cTok
  rw [hn]
  refine ⟨g1, ⟨g, h0.trans g2, fun i hi => by rw [(h1 i hi).2]; exact g3 i hi⟩, fun i hi => ?_⟩
  obtain ⟨s1, s2, s3⟩ := hs i hi
  rw [(h1 i hi).1, s1, s2, s3]
  exact g4 i hi
theorem cAud.cg (h : cAud ad ce au) (h4 : ce' 4 0 = ce 4 0) (h5 : ce' 5 0 = ce 5 0) (ha : ad' 5 0 = ad 5 0) : cAud ad' ce' au := by
  obtain ⟨g1, g2, f, g3, g4⟩ := h
  exact ⟨by rw [h4, ha]; exact g1, g2, f, h5.trans g3, g4⟩
theorem cFrm.cg (h : cFrm ad ce) (h1 : ∀ t, 8 ≤ t → t ≤ 12 → ce' t 0 = ce t 0 ∧ ad' t 0 = ad t 0) : cFrm ad' ce' := by
  obtain ⟨c, g, f1, f2, f3, a1, a2, a3, a4, a5⟩ := h
  refine ⟨c, g, f1, f2, f3, ?_, by rw [(h1 9 (by omega) (by omega)).1]; exact a2, by rw [(h1 10 (by omega) (by omega)).1]; exact a3, by rw [(h1 11 (by omega) (by omega)).1]; exact a4, by rw [(h1 12 (by omega) (by omega)).1]; exact a5⟩
  rw [(h1 8 (by omega) (by omega)).1, (h1 9 (by omega) (by omega)).2, (h1 10 (by omega) (by omega)).2, (h1 11 (by omega) (by omega)).2, (h1 12 (by omega) (by omega)).2]
  exact a1
/-- the object's own cell -/
theorem c_m (h : C1 z ad ce sI sO sL sN au) : z.1 (ad 0 0) = some (cM ad sI sN) := h.1.get (by simp [cnC]) h.2.1
/-- only ints of the object change -/
theorem C1.ints (h : C1 z ad ce sI sO sL sN au) (hI : ∀ t i, t < 7 → sI' t i = sI t i) : C1 (g_up z (ad 0 0) (cM ad sI' sN)) ad (ru ce 0 0 (cM ad sI' sN)) sI' sO sL sN au := by
  obtain ⟨h1, h2, h3, h4, h5, h6, h7, h8, h9⟩ := h
  have k : ∀ t i, t ≠ 0 → ru ce 0 0 (cM ad sI' sN) t i = ce t i := fun t i ht => ru_t _ _ ht
  refine ⟨h1.set (by simp [cnC]) _, ru_s _ _ _ _, h3.cg rfl (k _ _ (by omega)) (fun i _ => k _ _ (by omega)) (fun _ _ => rfl) (fun i _ => ?_), h4.cg rfl (fun t v _ _ _ => ⟨k _ _ (by omega), rfl⟩) (fun _ _ => rfl), h5.cg rfl (k _ _ (by omega)) (fun t i _ _ _ => ⟨k _ _ (by omega), rfl⟩) (fun _ _ _ _ => rfl) (fun i _ => ⟨hI 5 i (by omega), rfl, rfl, rfl, rfl⟩), h6.cg rfl (k _ _ (by omega)) (fun i _ => ⟨k _ _ (by omega), rfl⟩) (fun i _ => ⟨rfl, rfl, hI 6 i (by omega)⟩), h7.cg (k _ _ (by omega)) (k _ _ (by omega)) rfl, h8.keep rfl (k _ _ (by omega)) (k _ _ (by omega)), h9.cg (fun t _ _ => ⟨k _ _ (by omega), rfl⟩)⟩
  unfold cS
  rw [hI 0 i (by omega), hI 1 i (by omega), hI 2 i (by omega), hI 3 i (by omega), hI 4 i (by omega)]
/-- the tape changes -/
theorem C1.tape {z1 : gS} (h : C1 z ad ce sI sO sL sN au) {xs : List Int32} (hx : tx z1 (ad 6 0) (ad 7 0) 300 xs) (hz : z1.2 = z.2) (ho : ∀ b, b ≠ ad 6 0 → b ≠ ad 7 0 → z1.1 b = z.1 b) : ∃ ce', C1 z1 ad ce' sI sO (ru sL 3 0 xs) sN au := by
  obtain ⟨h1, h2, h3, h4, h5, h6, h7, h8, h9⟩ := h
  obtain ⟨ce', g1, g2, g3⟩ := h1.text (t := 6) (i := 0) (by simp [cnC]) (by simp [cnC]) hx hz ho
  have k : ∀ t i, t ≠ 6 → t ≠ 7 → ce' t i = ce t i := fun t i a b => g3 t i (fun q => by rcases q.2 with e | e <;> omega)
  refine ⟨ce', g1, (k 0 0 (by omega) (by omega)).trans h2, h3.cg rfl (k _ _ (by omega) (by omega)) (fun i _ => k _ _ (by omega) (by omega)) (fun _ _ => rfl) (fun i _ => rfl), h4.cg rfl (fun t v _ _ _ => ⟨k _ _ (by omega) (by omega), rfl⟩) (fun v _ => ru_t _ _ (by omega)), h5.cg rfl (k _ _ (by omega) (by omega)) (fun t i _ _ _ => ⟨k _ _ (by omega) (by omega), rfl⟩) (fun _ _ _ _ => rfl) (fun i _ => ⟨rfl, rfl, rfl, ru_t _ _ (by omega), ru_t _ _ (by omega)⟩), h6.cg rfl (k _ _ (by omega) (by omega)) (fun i _ => ⟨k _ _ (by omega) (by omega), rfl⟩) (fun i _ => ⟨rfl, rfl, rfl⟩), h7.cg (k _ _ (by omega) (by omega)) (k _ _ (by omega) (by omega)) rfl, by rw [ru_s]; exact g2, h9.cg (fun t _ _ => ⟨k _ _ (by omega) (by omega), rfl⟩)⟩
theorem C1.tpx (h : C1 z ad ce sI sO sL sN au) : tx z (ad 6 0) (ad 7 0) 300 (sL 3 0) := h.2.2.2.2.2.2.2.1.tx h.1 (by simp [cnC]) (by simp [cnC])
end CG
theorem RS.code {iv : Nat → Int32} {fa : Nat → Nat → Int32} {sI : Nat → Nat → Int32} {sO : Nat → Nat → Option Nat} {sL : Nat → Nat → List Int32} {sN : Nat → Nat → Nat} {au : List (Int32 × Int32 × Int32)} (h : RS iv fa sI sO sL sN au) (x : Int32) : RS (up1 iv 0 x) fa sI sO sL sN au := h
theorem sim_mk {ad : Nat → Nat → Nat} {ce : Nat → Nat → gE} {bd : Nat → Nat} {iv : Nat → Int32} {fa : Nat → Nat → Int32} {sI : Nat → Nat → Int32} {sO : Nat → Nat → Option Nat} {sL : Nat → Nat → List Int32} {sN : Nat → Nat → Nat} {au : List (Int32 × Int32 × Int32)} {x y : Nat} {z1 z2 : gS} (hx : x = ad 0 0) (hy : y = bd 0) (hC : C1 z1 ad ce sI sO sL sN au) (hR : R2 z2 bd iv fa) (hz : z2.2 = z1.2) (hS : RS iv fa sI sO sL sN au) (hV : VS sI sO sL sN) : Sim x y z1.1 z2.1 z2.2 := ⟨ad, ce, bd, iv, fa, sI, sO, sL, sN, au, hx, hy, by rw [hz]; exact hC, hR, hS, hV⟩
