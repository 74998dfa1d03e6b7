def sIb (sI : Nat → Nat → Int32) (b : Option (Nat × Nat × Nat × Nat)) : Nat → Nat → Int32 := match b with
  | none => sI
  | some e => ru (ru (ru sI 8 0 (nI e.1)) 8 1 (nI e.2.2.1)) 8 2 (nI e.2.2.2)
def scC (b : Option (Nat × (Nat × Nat × Nat × Nat))) : Int32 := match b with
  | none => -1
  | some (f, _) => nI f
section RSD
variable {bd : Nat → Nat} {iv : Nat → Int32} {fa : Nat → Nat → Int32} {sI : Nat → Nat → Int32} {sO : Nat → Nat → Option Nat} {sL : Nat → Nat → List Int32} {sN : Nat → Nat → Nat}
theorem r_scan (hv : RV iv fa sI sO sL sN) (hV : VS sI sO sL sN) (hnS : sN 0 0 ≤ 10) (hnV : sN 0 3 ≤ 24) (n : Nat) (hn : 1000 < n) {tp : List Int32} (htp : ∀ j, j < tp.length → tp[j]? = some (fa 17 j)) (hl : tp.length ≤ 300) : ∀ (m k f : Nat) (z : gS), f + m = tp.length → m < k → R2 z bd iv fa → ∃ z1 : gS, fRef_scan_L17 n k (bd 0) (nI tp.length) (nI f) z = some (scC (sc sL (fLs sI sO (sN 0 0)) tp m f), z1) ∧ R2 z1 bd (ivb iv ((sc sL (fLs sI sO (sN 0 0)) tp m f).map Prod.snd)) fa ∧ z1.2 = z.2 := by
  intro m
  induction m with
  | zero =>
    intro k f z q1 q2 h
    obtain ⟨k, rfl⟩ : ∃ k', k = k' + 1 := ⟨k - 1, by omega⟩
    rw [fRef_scan_L17, if_pos ((nI_leI (by omega) (by omega)).mpr (by omega))]
    exact ⟨z, rfl, h, rfl⟩
  | succ m ih =>
    intro k f z q1 q2 h
    obtain ⟨k, rfl⟩ : ∃ k', k = k' + 1 := ⟨k - 1, by omega⟩
    have hlen : f + (tp.drop f).length = tp.length := by rw [List.length_drop]; omega
    obtain ⟨z1, e1, h1, s1⟩ := r_L27 hv hV hnS hnV n hn (fr := f) (r := tp.drop f) (fun j hj => by
      rw [List.length_drop] at hj
      rw [List.getElem?_drop]
      exact htp (f + j) (by omega)) (by omega) (fun a0b i1b i2b z => fRef_scan_L17 n k a0b i1b i2b z) n 0 z (by omega) (by omega) h
    rw [hlen] at e1
    have e1' : fRef_scan_L27 n (fun a0b i1b i2b z => fRef_scan_L17 n k a0b i1b i2b z) n (bd 0) (nI tp.length) (nI f) 0 0 z = _ := e1
    rw [fRef_scan_L17, if_neg (fun q => absurd ((nI_leI (by omega) (by omega)).mp q) (by omega)), e1', sc]
    cases eb : lwe sL (tp.drop f) (fLs sI sO (sN 0 0)) none with
    | none =>
      rw [eb] at h1
      rw [show ll sL none = 0 from rfl, if_pos (show nI 0 ≤ 0 from by decide)]
      obtain ⟨z2, e2, h2, s2⟩ := ih k (f + 1) z1 (by omega) (by omega) h1
      exact ⟨z2, e2, h2, s2.trans s1⟩
    | some e =>
      rw [eb] at h1
      have hme : e ∈ fLs sI sO (sN 0 0) := (lwe_mem _ _ _ _ _ eb).resolve_left (by simp)
      obtain ⟨-, -, l4, l24⟩ := fLs_ok hV e hme
      rw [show ll sL (some e) = (eT sL e).length from rfl, if_neg (show ¬ nI (eT sL e).length ≤ 0 from nI_nle (by omega) (by omega))]
      exact ⟨z1, rfl, h1, s1⟩
end RSD
section CSC
variable {z : gS} {ad : Nat → Nat → Nat} {ce : Nat → Nat → gE} {sI : Nat → Nat → Int32} {sO : Nat → Nat → Option Nat} {sL : Nat → Nat → List Int32} {sN : Nat → Nat → Nat} {au : List (Int32 × Int32 × Int32)} {es : List (Nat × Nat × Nat × Nat)}
theorem c_leak (hC : C1 z ad ce sI sO sL sN au) (hF : FR z ad es) (n : Nat) {j : Nat} {e : Nat × Nat × Nat × Nat} (he : es[j]? = some e) : ∃ (z1 : gS) (ce1 : Nat → Nat → gE), fMain_rememberLeak n (ad 0 0) (nI j) z = some z1 ∧ C1 z1 ad ce1 (sIb sI (some e)) sO sL sN au ∧ z1.2 = z.2 := by
  have hm := c_m hC
  have hI : ∀ t i, t < 7 → sIb sI (some e) t i = sI t i := fun t i ht => by
    show ru (ru (ru sI 8 0 (nI e.1)) 8 1 (nI e.2.2.1)) 8 2 (nI e.2.2.2) t i = _
    rw [ru_t _ _ (by omega), ru_t _ _ (by omega), ru_t _ _ (by omega)]
  have hC' := hC.ints (sI' := sIb sI (some e)) hI
  have em : cM ad (sIb sI (some e)) sN = .inr (8, [.ref (ad 1 0), .ref (ad 2 0), .ref (ad 3 0), .ref (ad 4 0), .ref (ad 6 0), .ref (ad 8 0), .int (nI (sN 0 0)), .int (nI (sN 0 1)), .int (nI (sN 0 2)), .int (nI (sN 0 3)), .int (sI 7 0), .int (nI e.1), .int (nI e.2.2.1), .int (nI e.2.2.2)]) := by
    unfold cM
    have a7 : sIb sI (some e) 7 0 = sI 7 0 := by
      show ru (ru (ru sI 8 0 (nI e.1)) 8 1 (nI e.2.2.1)) 8 2 (nI e.2.2.2) 7 0 = _
      rw [ru_t _ _ (by omega), ru_t _ _ (by omega), ru_t _ _ (by omega)]
    have a0 : sIb sI (some e) 8 0 = nI e.1 := by
      show ru (ru (ru sI 8 0 (nI e.1)) 8 1 (nI e.2.2.1)) 8 2 (nI e.2.2.2) 8 0 = _
      rw [ru_i _ _ (by omega), ru_i _ _ (by omega), ru_s]
    have a1 : sIb sI (some e) 8 1 = nI e.2.2.1 := by
      show ru (ru (ru sI 8 0 (nI e.1)) 8 1 (nI e.2.2.1)) 8 2 (nI e.2.2.2) 8 1 = _
      rw [ru_i _ _ (by omega), ru_s]
    have a2 : sIb sI (some e) 8 2 = nI e.2.2.2 := ru_s _ _ _ _
    rw [a7, a0, a1, a2]
  have o1 : ∀ (x : gE), FR (g_up z (ad 0 0) x) ad es := fun x => hF.keep (fun t a1 a2 => q_un (fm_ne hC (by omega) (by omega) (by omega)))
  refine ⟨_, _, ?_, hC', rfl⟩
  unfold fMain_rememberLeak
  rw [q_fR hm (k := 5) (r := some (ad 8 0)) rfl, Option.bind_some, Option.bind_some, hF.is, Option.bind_some, q_bp (fm_owner hF n he).1, q_pF hm (Nat.le_of_ble_eq_true rfl), Option.bind_some, q_fR q_up (k := 5) (r := some (ad 8 0)) rfl, Option.bind_some, Option.bind_some, (o1 _).is, Option.bind_some, q_bp (fm_owner (o1 _) n he).2.1, q_pF q_up (Nat.le_of_ble_eq_true rfl), Option.bind_some, q_uu, q_fR q_up (k := 5) (r := some (ad 8 0)) rfl, Option.bind_some, Option.bind_some, (o1 _).is, Option.bind_some, q_bp (fm_owner (o1 _) n he).2.2, q_pF q_up (Nat.le_of_ble_eq_true rfl), Option.bind_some, q_uu, em]
  rfl
theorem c_scan (hE : EO sL sN es) (n : Nat) (hn : 1000 < n) : ∀ (m k f : Nat), f + m = (sL 3 0).length → m < k → C1 z ad ce sI sO sL sN au → FR z ad es → ∃ (z1 : gS) (ce1 : Nat → Nat → gE), fMain_scan_L8 n k (ad 0 0) (-1) (nI f) z = some (scC (sc sL es (sL 3 0) m f), z1) ∧ C1 z1 ad ce1 (sIb sI ((sc sL es (sL 3 0) m f).map Prod.snd)) sO (ru sL 3 0 []) sN au ∧ z1.2 = z.2 := by
  have clr : ∀ (y : gS) (cy : Nat → Nat → gE) (sJ : Nat → Nat → Int32), C1 y ad cy sJ sO sL sN au → ∃ (z1 : gS) (ce1 : Nat → Nat → gE), fText_clear n (ad 6 0) y = some z1 ∧ C1 z1 ad ce1 sJ sO (ru sL 3 0 []) sN au ∧ z1.2 = y.2 := by
    intro y cy sJ h
    obtain ⟨z1, e1, t1, s1, o1⟩ := tx_clear h.tpx n
    obtain ⟨ce1, h1⟩ := h.tape t1 s1 o1
    exact ⟨z1, ce1, e1, h1, s1⟩
  intro m
  induction m with
  | zero =>
    intro k f q1 q2 hC hF
    have hm := c_m hC
    have ht := hC.tpx
    have hl := ht.2.1
    obtain ⟨k, rfl⟩ : ∃ k', k = k' + 1 := ⟨k - 1, by omega⟩
    obtain ⟨z1, ce1, e1, h1, s1⟩ := clr z ce sI hC
    refine ⟨z1, ce1, ?_, h1, s1⟩
    rw [fMain_scan_L8, q_fR hm (k := 4) (r := some (ad 6 0)) rfl, Option.bind_some, Option.bind_some, q_is ht.1, Option.bind_some, q_bp (tx_len ht n), if_pos ((nI_leI (by omega) (by omega)).mpr (by omega)), q_fR hm (k := 4) (r := some (ad 6 0)) rfl, Option.bind_some, Option.bind_some, q_is ht.1, Option.bind_some, e1, Option.bind_some]
    rfl
  | succ m ih =>
    intro k f q1 q2 hC hF
    have hm := c_m hC
    have ht := hC.tpx
    have hl := ht.2.1
    obtain ⟨k, rfl⟩ : ∃ k', k = k' + 1 := ⟨k - 1, by omega⟩
    have lw := fm_lw hC hF hE n hn ht (d := f) (by omega)
    have eq := lwi_lwe sL ((sL 3 0).drop f) es 0 none
    have get := lwi_get sL ((sL 3 0).drop f) es es.length 0 none (by omega) (fun _ _ q => by cases q)
    rw [List.drop_zero] at get
    have beg : ∀ R, (if lwo (lwi sL ((sL 3 0).drop f) es 0 none) = -1 then fMain_scan_L8 n k (ad 0 0) (-1) (nI (f + 1)) z else (g_is z (ad 0 0) 8).bind fun _ => (fMain_rememberLeak n (ad 0 0) (lwo (lwi sL ((sL 3 0).drop f) es 0 none)) z).bind fun z_27 => fMain_scan_L8 n k (ad 0 0) (nI f) (nI (f + 1)) z_27) = R → fMain_scan_L8 n (k + 1) (ad 0 0) (-1) (nI f) z = R := by
      intro R q
      rw [fMain_scan_L8, q_fR hm (k := 4) (r := some (ad 6 0)) rfl, Option.bind_some, Option.bind_some, q_is ht.1, Option.bind_some, q_bp (tx_len ht n), if_neg (fun q => absurd ((nI_leI (by omega) (by omega)).mp q) (by omega)), if_pos rfl, q_fR hm (k := 5) (r := some (ad 8 0)) rfl, Option.bind_some, q_fR hm (k := 4) (r := some (ad 6 0)) rfl, Option.bind_some, Option.bind_some, Option.bind_some, hF.is, Option.bind_some, q_bp lw, nI_1]
      exact q
    rw [sc]
    cases eb : lwi sL ((sL 3 0).drop f) es 0 none with
    | none =>
      rw [eb] at eq
      have en : lwe sL ((sL 3 0).drop f) es none = none := eq.symm
      rw [en]
      obtain ⟨z1, ce1, e1, h1, s1⟩ := ih k (f + 1) (by omega) (by omega) hC hF
      exact ⟨z1, ce1, beg _ (by rw [eb, if_pos (show lwo none = -1 from rfl)]; exact e1), h1, s1⟩
    | some je =>
      obtain ⟨j, e⟩ := je
      rw [eb] at eq
      have en : lwe sL ((sL 3 0).drop f) es none = some e := eq.symm
      rw [en]
      have he := get j e eb
      have hj : j < es.length := by
        apply Classical.byContradiction
        intro q
        rw [List.getElem?_eq_none (by omega)] at he
        cases he
      have bl := hF.le
      obtain ⟨z2, ce2, e2, h2, s2⟩ := c_leak hC hF n he
      obtain ⟨z3, ce3, e3, h3, s3⟩ := clr z2 ce2 _ h2
      have hm2 := c_m h2
      have ht2 := h2.tpx
      refine ⟨z3, ce3, beg _ ?_, h3, s3.trans s2⟩
      obtain ⟨k, rfl⟩ : ∃ k', k = k' + 1 := ⟨k - 1, by omega⟩
      rw [eb, show lwo (some (j, e)) = nI j from rfl, if_neg (fun w => nI_pos (show j < 2 ^ 31 by omega) (by rw [w]; decide)), q_is hm, Option.bind_some, e2, Option.bind_some, fMain_scan_L8, q_fR hm2 (k := 4) (r := some (ad 6 0)) rfl, Option.bind_some, Option.bind_some, q_is ht2.1, Option.bind_some, q_bp (tx_len ht2 n)]
      have rest : ((g_fR z2 (ad 0 0) 8 4).bind fun r_9 => r_9.bind fun a_10 => (g_is z2 a_10 0).bind fun _ => (fText_clear n a_10 z2).bind fun z_12 => some (nI f, z_12)) = some (nI f, z3) := by
        rw [q_fR hm2 (k := 4) (r := some (ad 6 0)) rfl, Option.bind_some, Option.bind_some, q_is ht2.1, Option.bind_some, e3, Option.bind_some]
      by_cases c : (sL 3 0).length ≤ f + 1
      · rw [if_pos ((nI_leI (by omega) (by omega)).mpr c)]
        exact rest
      · rw [if_neg (fun q => c ((nI_leI (by omega) (by omega)).mp q)), if_neg (fun w => nI_pos (show f < 2 ^ 31 by omega) (by rw [w]; decide))]
        exact rest
end CSC
theorem op_scan (n x y : Nat) (hn : 1000 < n) : OP_scan n x y (Sim x y) := by
  intro G1 G2 sz hS
  obtain ⟨ad, ce, bd, iv, fa, sI, sO, sL, sN, au, rfl, rfl, hC, hR, hRS, hV⟩ := hS
  have hm := c_m hC
  have hnS := hC.nS
  have hnV := hC.nV
  have hl := hC.tpx.2.1
  obtain ⟨zg, cg, eg, hCg, hFg, hMg⟩ := fm_gather hC hV n hn
  have hE : EO sL sN (fLs sI sO (sN 0 0)) := fLs_ok hV
  obtain ⟨z1, ce1, e1, hC1, s1⟩ := c_scan hE n hn (sL 3 0).length n 0 (by omega) (by omega) hCg hFg
  rw [nI_0] at e1
  have A : fMain_scan n (ad 0 0) (G1, sz) = some (scC (sc sL (fLs sI sO (sN 0 0)) (sL 3 0) (sL 3 0).length 0), z1) := by
    unfold fMain_scan
    rw [q_is hm, Option.bind_some, eg, Option.bind_some, e1]
  obtain ⟨y1, f1, hY1, sY1⟩ := r_p0 hR 0
  obtain ⟨y3, f3, hY3, sY3⟩ := r_p18 hY1 0
  have i18 : g_fI y1 (bd 0) 9 18 = some (nI (sL 3 0).length) := by rw [r_I hY1 18 rfl]; exact congrArg some hRS.1.2.2.2.2.2.2.1
  obtain ⟨w1, g1, hW1, sW1⟩ := r_scan (iv := up1 (up1 iv 0 0) 18 0) (sI := sI) (sO := sO) (sL := sL) (sN := sN) hRS.rv hV hnS hnV n hn (tp := sL 3 0) hRS.2.2.2.2.1 hl (sL 3 0).length n 0 y3 (by omega) (by omega) hY3
  rw [nI_0] at g1
  have B : fRef_scan n (bd 0) (G2, sz) = some (scC (sc sL (fLs sI sO (sN 0 0)) (sL 3 0) (sL 3 0).length 0), w1) := by
    unfold fRef_scan
    rw [f1, Option.bind_some, i18, Option.bind_some, f3, Option.bind_some, g1]
  have hmem : ∀ (m f : Nat) (p : Nat × (Nat × Nat × Nat × Nat)), sc sL (fLs sI sO (sN 0 0)) (sL 3 0) m f = some p → p.2 ∈ fLs sI sO (sN 0 0) := by
    intro m
    induction m with
    | zero => intro f p h; cases h
    | succ m ih =>
      intro f p h
      rw [sc] at h
      cases eb : lwe sL ((sL 3 0).drop f) (fLs sI sO (sN 0 0)) none with
      | none => rw [eb] at h; exact ih (f + 1) p h
      | some e =>
        rw [eb] at h
        cases h
        exact (lwe_mem _ _ _ _ _ eb).resolve_left (by simp)
  refine ⟨_, z1, w1, A, by rw [s1, hMg.1]; exact B, ?_⟩
  have hz : w1.2 = z1.2 := by rw [sW1, sY3, sY1, s1, hMg.1]
  have hRS3 : RS (up1 (up1 iv 0 0) 18 0) fa sI sO (ru sL 3 0 []) sN au := (hRS.code 0).clear
  have hV3 := hV.clear
  cases eb : sc sL (fLs sI sO (sN 0 0)) (sL 3 0) (sL 3 0).length 0 with
  | none =>
    rw [eb] at hC1 hW1
    exact sim_mk rfl rfl hC1 hW1 hz hRS3 hV3
  | some p =>
    obtain ⟨f, e⟩ := p
    rw [eb] at hC1 hW1
    have hme := hmem _ _ _ eb
    have hs : e.1 < sN 0 0 := ((fLs_mem _).mp hme).1
    have a7 : sIb sI (some e) 7 0 = sI 7 0 := by
      show ru (ru (ru sI 8 0 (nI e.1)) 8 1 (nI e.2.2.1)) 8 2 (nI e.2.2.2) 7 0 = _
      rw [ru_t _ _ (by omega), ru_t _ _ (by omega), ru_t _ _ (by omega)]
    have at' : ∀ t i, t < 8 → sIb sI (some e) t i = sI t i := fun t i ht => by
      show ru (ru (ru sI 8 0 (nI e.1)) 8 1 (nI e.2.2.1)) 8 2 (nI e.2.2.2) t i = _
      rw [ru_t _ _ (by omega), ru_t _ _ (by omega), ru_t _ _ (by omega)]
    have a0 : sIb sI (some e) 8 0 = nI e.1 := by
      show ru (ru (ru sI 8 0 (nI e.1)) 8 1 (nI e.2.2.1)) 8 2 (nI e.2.2.2) 8 0 = _
      rw [ru_i _ _ (by omega), ru_i _ _ (by omega), ru_s]
    have a1 : sIb sI (some e) 8 1 = nI e.2.2.1 := by
      show ru (ru (ru sI 8 0 (nI e.1)) 8 1 (nI e.2.2.1)) 8 2 (nI e.2.2.2) 8 1 = _
      rw [ru_i _ _ (by omega), ru_s]
    have a2 : sIb sI (some e) 8 2 = nI e.2.2.2 := ru_s _ _ _ _
    refine sim_mk rfl rfl hC1 hW1 hz ?_ ?_
    · obtain ⟨⟨b1, b2, b3, b4, b5, b6, b7, b8, b9⟩, c1, c2, c3, c4, c5, c6, c7, c8⟩ := hRS3
      refine ⟨⟨b1.trans a7.symm, b2, b3, b4, b5, b6, b7, a0.symm, fun _ => ⟨a1.symm, a2.symm⟩⟩, c1, fun q hq => ?_, c3, c4, fun j hj => ?_, c6, c7, fun j hj => ?_⟩
      · show _ = sIb sI (some e) 0 q ∧ _ = sIb sI (some e) 1 q ∧ _ = sIb sI (some e) 2 q ∧ _ ∧ _ ∧ _ = sIb sI (some e) 3 q ∧ _ = sIb sI (some e) 4 q
        rw [at' 0 q (by omega), at' 1 q (by omega), at' 2 q (by omega), at' 3 q (by omega), at' 4 q (by omega)]
        exact c2 q hq
      · obtain ⟨p1, p2, p3, p4, p5, p6, p7, p8⟩ := c5 j hj
        exact ⟨p1, p2, p3, p4, p5, p6, p7, p8.trans (at' 5 j (by omega)).symm⟩
      · obtain ⟨p1, p2, p3⟩ := c8 j hj
        exact ⟨p1, p2, p3.trans (at' 6 j (by omega)).symm⟩
    · obtain ⟨d1, d2, d3, d4, d5, d6, d7⟩ := hV3
      obtain ⟨cl, hcl, ecl⟩ := d1
      refine ⟨⟨cl, hcl, a7.trans ecl⟩, fun q => ?_, d3, d4, fun q hq => ?_, fun j hj => ?_, fun j hj => ?_⟩
      · have q' : nI e.1 = -1 := a0.symm.trans q
        exact absurd (by rw [q']; decide) (nI_pos (show e.1 < 2 ^ 31 by omega))
      · obtain ⟨p1, p2, p3, c, p4, p5⟩ := d5 q hq
        exact ⟨by rw [show (sIb sI (Option.map Prod.snd (some (f, e)))) 4 q = sI 4 q from at' 4 q (by omega)]; exact p1, p2, p3, c, p4, (at' 3 q (by omega)).trans p5⟩
      · obtain ⟨p1, p2⟩ := d6 j hj
        exact ⟨by rw [show (sIb sI (Option.map Prod.snd (some (f, e)))) 5 j = sI 5 j from at' 5 j (by omega)]; exact p1, p2⟩
      · obtain ⟨p1, p2, c, p4, p5⟩ := d7 j hj
        exact ⟨p1, p2, c, p4, (at' 6 j (by omega)).trans p5⟩
