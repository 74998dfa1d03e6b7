theorem kw_12 : Cond.classLink "SecretRowsLaw" 7 "SecretRows" ∈ gW := kw_t (i := 12) (by decide +kernel) (by decide +kernel)
theorem kw_13 : Cond.instantiable "SecretRows" 14 ∈ gW := kw_t (i := 13) (by decide +kernel) (by decide +kernel)
theorem kw_14 : Cond.methodLink "SecretRowsLaw" 9 ⟨"SecretRows", "<init>", "()V"⟩ ∈ gW := kw_t (i := 14) (by decide +kernel) (by decide +kernel)
theorem kw_15 : Cond.instanceMethod ⟨"SecretRows", "<init>", "()V"⟩ ∈ gW := kw_t (i := 15) (by decide +kernel) (by decide +kernel)
theorem kw_514 : Cond.classLink "SecretRowsLaw" 10 "SecretRowsModel" ∈ gW := kw_t (i := 514) (by decide +kernel) (by decide +kernel)
theorem kw_515 : Cond.instantiable "SecretRowsModel" 36 ∈ gW := kw_t (i := 515) (by decide +kernel) (by decide +kernel)
theorem kw_516 : Cond.methodLink "SecretRowsLaw" 12 ⟨"SecretRowsModel", "<init>", "()V"⟩ ∈ gW := kw_t (i := 516) (by decide +kernel) (by decide +kernel)
theorem kw_517 : Cond.instanceMethod ⟨"SecretRowsModel", "<init>", "()V"⟩ ∈ gW := kw_t (i := 517) (by decide +kernel) (by decide +kernel)
def LOK (n x y : Nat) (Sim : (Nat → Option gE) → (Nat → Option gE) → Nat → Prop) : Prop := (∀ (G1 G2 : Nat → Option gE) (sz : Nat), Sim G1 G2 sz → g_is (G1, sz) x 8 = some () ∧ g_is (G2, sz) y 9 = some ()) ∧ OP_secret n x y Sim ∧ OP_type n x y Sim ∧ OP_set n x y Sim ∧ OP_revoke n x y Sim ∧ OP_tick n x y Sim ∧ OP_step n x y Sim ∧ OP_sees n x y Sim ∧ OP_read n x y Sim ∧ OP_audit n x y Sim ∧ OP_log n x y Sim ∧ OP_close n x y Sim ∧ OP_told n x y Sim ∧ OP_about n x y Sim ∧ OP_token n x y Sim ∧ OP_good n x y Sim ∧ OP_scan n x y Sim ∧ OP_leak n x y Sim
set_option maxHeartbeats 4000000 in
set_option maxRecDepth 100000 in
theorem law_loop {p : Program} {l : Launch} {e : Env} {s : State} {m : MethodId} {below : List Frame} {meth : Method} {c : Code} {D : va_G} {b L : Nat} {xs : Nat → Int32} (C0 : lw_At p s m meth c b L xs) (hK : g_K D vwCl gNN gOO s) {n x y : Nat} {Sim : (Nat → Option gE) → (Nat → Option gE) → Nat → Prop} (hO : LOK n x y Sim) (hL : L ≤ 2560) : ∀ (k j : Nat), 5 * j ≤ L → L < 5 * (j + k) → ∀ (G1 G2 : Nat → Option gE) (sz : Nat) (H : Heap) (locs : List Loc) (ls : Array Slot), Sim G1 G2 sz → lW D s H G1 G2 sz → va_S (fun q : Nat => s.heap.size ≤ q) s.heap H locs → lv_has ls 4 [(0, .ref b), (1, .ref x), (2, .ref y), (3, .int (nI (5 * j)))] → W p l e room_1 s m #[Value.ref b] below meth c H locs (100 + 7 * j) (20000 + 910 * j) (lw_Z below #[Value.ref b] s) (F0 m 18 ls []) := by
  obtain ⟨hx, hb, hr, hml, hown, hts, hX, hbl, hlocks, hgv⟩ := id C0
  have hbA : ¬ (fun q : Nat => s.heap.size ≤ q) b := Nat.not_le.mpr hbl
  obtain ⟨his, o_secret, o_type, o_set, o_revoke, o_tick, o_step, o_sees, o_read, o_audit, o_log, o_close, o_told, o_about, o_token, o_good, o_scan, o_leak⟩ := hO
  intro k
  induction k with
  | zero => intro j h1 h2; omega
  | succ k ih =>
    intro j h1 h2 G1 G2 sz H locs ls hSim hLW hS hl
    obtain ⟨hi1, hi2⟩ := his _ _ _ hSim
    refine lv_iload_n hx hb dLaw_law_18 rfl (lv_at hl 3 rfl) ?_
    refine lv_aload_n hx hb dLaw_law_19 rfl (lv_at hl 0 rfl) ?_
    refine va_slen hx hb hX hbl hbA hS dLaw_law_20 ?_
    refine lv_iconst (v := 5) hx hb dLaw_law_21 (by decide) ?_
    refine lv_isub hx hb dLaw_law_22 ?_
    refine lv_icmp_gt (tgt := 661) hx hb dLaw_law_23 (by decide) (fun c1 => ?_) (fun c1 => ?_)
    · refine lv_iconst (v := 1) hx hb dLaw_law_661 (by decide) ?_
      refine va_forget (fun q hq => hS.2.2 q hq) ?_
      refine W.widen (k := 600000) (n := 7302250) (by omega) (by omega) ?_
      exact lw_ret hx hb hr hlocks dLaw_law_662
    · have hj : 5 * j + 5 ≤ L := by
        apply Classical.byContradiction
        intro hn
        refine c1 (Int32.lt_iff_toInt_lt.mpr ?_)
        show (nI L - nI 5).toInt < (nI (5 * j)).toInt
        rw [pk_sub_toInt (by omega) (by omega), nI_toInt (by omega)]
        omega
      have tail : ∀ (G1 G2 : Nat → Option gE) (sz : Nat) (H : Heap) (locs : List Loc), Sim G1 G2 sz → lW D s H G1 G2 sz → va_S (fun q : Nat => s.heap.size ≤ q) s.heap H locs → W p l e room_1 s m #[Value.ref b] below meth c H locs (100 + 7 * j + 7) (20000 + 910 * j + 910) (lw_Z below #[Value.ref b] s) (F0 m 655 ls []) := by
        intro G1 G2 sz H locs hSim hLW hS
        refine lv_iinc (v := nI (5 * (j + 1))) (lv' := [(3, .int (nI (5 * (j + 1)))), (0, .ref b), (1, .ref x), (2, .ref y)]) hx hb dLaw_law_655 hl (k := 3) rfl (by show nI (5 * j) + nI 5 = _; rw [nI_add]; rfl) (by decide) rfl (fun ls hl => ?_)
        refine lv_goto (tgt := 18) hx hb dLaw_law_658 (by decide) ?_
        refine W.cs (cells' := 100 + 7 * (j + 1)) (slots' := 20000 + 910 * (j + 1)) (by omega) (by omega) ?_
        exact ih (j + 1) (by omega) (by omega) G1 G2 sz H locs _ hSim hLW hS (lv_sub hl [1, 2, 3, 0] rfl)
      have hin : vp_in (nI (5 * j)) L := vp_in_nI (by omega) (by omega)
      refine lv_aload_n hx hb dLaw_law_26 rfl (lv_at hl 0 rfl) ?_
      refine lv_iload_n hx hb dLaw_law_27 rfl (lv_at hl 3 rfl) ?_
      refine va_sld hx hb hX hbl hbA hS hin dLaw_law_28 ?_
      refine lv_bipush (v := 31) hx hb dLaw_law_29 (by decide) ?_
      refine lv_iand hx hb dLaw_law_31 ?_
      generalize xs (nI (5 * j)).toNatClampNeg &&& 31 = w
      by_cases n0 : w = 0
      · refine lv_tableIn (tgt := 116) hx hb dLaw_law_32 (by rw [n0]; decide) (by rw [n0]; decide) (by rw [n0]; rfl) (by decide) ?_
        exact law_secret C0 hK o_secret hj hL (by omega) (by omega) hSim hi1 hi2 hLW hS hl tail
      · by_cases n1 : w = 1
        · refine lv_tableIn (tgt := 159) hx hb dLaw_law_32 (by rw [n1]; decide) (by rw [n1]; decide) (by rw [n1]; rfl) (by decide) ?_
          exact law_type C0 hK o_type hj hL (by omega) (by omega) hSim hi1 hi2 hLW hS hl tail
        · by_cases n2 : w = 2
          · refine lv_tableIn (tgt := 184) hx hb dLaw_law_32 (by rw [n2]; decide) (by rw [n2]; decide) (by rw [n2]; rfl) (by decide) ?_
            exact law_set C0 hK o_set hj hL (by omega) (by omega) hSim hi1 hi2 hLW hS hl tail
          · by_cases n3 : w = 3
            · refine lv_tableIn (tgt := 217) hx hb dLaw_law_32 (by rw [n3]; decide) (by rw [n3]; decide) (by rw [n3]; rfl) (by decide) ?_
              exact law_revoke C0 hK o_revoke hj hL (by omega) (by omega) hSim hi1 hi2 hLW hS hl tail
            · by_cases n4 : w = 4
              · refine lv_tableIn (tgt := 240) hx hb dLaw_law_32 (by rw [n4]; decide) (by rw [n4]; decide) (by rw [n4]; rfl) (by decide) ?_
                exact law_tick C0 hK o_tick hj hL (by omega) (by omega) hSim hi1 hi2 hLW hS hl tail
              · by_cases n5 : w = 5
                · refine lv_tableIn (tgt := 263) hx hb dLaw_law_32 (by rw [n5]; decide) (by rw [n5]; decide) (by rw [n5]; rfl) (by decide) ?_
                  exact law_step C0 hK o_step hj hL (by omega) (by omega) hSim hi1 hi2 hLW hS hl tail
                · by_cases n6 : w = 6
                  · refine lv_tableIn (tgt := 332) hx hb dLaw_law_32 (by rw [n6]; decide) (by rw [n6]; decide) (by rw [n6]; rfl) (by decide) ?_
                    exact law_sees C0 hK o_sees hj hL (by omega) (by omega) hSim hi1 hi2 hLW hS hl tail
                  · by_cases n7 : w = 7
                    · refine lv_tableIn (tgt := 365) hx hb dLaw_law_32 (by rw [n7]; decide) (by rw [n7]; decide) (by rw [n7]; rfl) (by decide) ?_
                      exact law_read C0 hK o_read hj hL (by omega) (by omega) hSim hi1 hi2 hLW hS hl tail
                    · by_cases n8 : w = 8
                      · refine lv_tableIn (tgt := 408) hx hb dLaw_law_32 (by rw [n8]; decide) (by rw [n8]; decide) (by rw [n8]; rfl) (by decide) ?_
                        exact law_audit C0 hK o_audit hj hL (by omega) (by omega) hSim hi1 hi2 hLW hS hl tail
                      · by_cases n9 : w = 9
                        · refine lv_tableIn (tgt := 441) hx hb dLaw_law_32 (by rw [n9]; decide) (by rw [n9]; decide) (by rw [n9]; rfl) (by decide) ?_
                          exact law_log C0 hK o_log hj hL (by omega) (by omega) hSim hi1 hi2 hLW hS hl tail
                        · by_cases n10 : w = 10
                          · refine lv_tableIn (tgt := 464) hx hb dLaw_law_32 (by rw [n10]; decide) (by rw [n10]; decide) (by rw [n10]; rfl) (by decide) ?_
                            exact law_close C0 hK o_close hj hL (by omega) (by omega) hSim hi1 hi2 hLW hS hl tail
                          · by_cases n11 : w = 11
                            · refine lv_tableIn (tgt := 487) hx hb dLaw_law_32 (by rw [n11]; decide) (by rw [n11]; decide) (by rw [n11]; rfl) (by decide) ?_
                              exact law_told C0 hK o_told hj hL (by omega) (by omega) hSim hi1 hi2 hLW hS hl tail
                            · by_cases n12 : w = 12
                              · refine lv_tableIn (tgt := 520) hx hb dLaw_law_32 (by rw [n12]; decide) (by rw [n12]; decide) (by rw [n12]; rfl) (by decide) ?_
                                exact law_about C0 hK o_about hj hL (by omega) (by omega) hSim hi1 hi2 hLW hS hl tail
                              · by_cases n13 : w = 13
                                · refine lv_tableIn (tgt := 553) hx hb dLaw_law_32 (by rw [n13]; decide) (by rw [n13]; decide) (by rw [n13]; rfl) (by decide) ?_
                                  exact law_token C0 hK o_token hj hL (by omega) (by omega) hSim hi1 hi2 hLW hS hl tail
                                · by_cases n14 : w = 14
                                  · refine lv_tableIn (tgt := 596) hx hb dLaw_law_32 (by rw [n14]; decide) (by rw [n14]; decide) (by rw [n14]; rfl) (by decide) ?_
                                    exact law_good C0 hK o_good hj hL (by omega) (by omega) hSim hi1 hi2 hLW hS hl tail
                                  · by_cases n15 : w = 15
                                    · refine lv_tableIn (tgt := 619) hx hb dLaw_law_32 (by rw [n15]; decide) (by rw [n15]; decide) (by rw [n15]; rfl) (by decide) ?_
                                      exact law_scan C0 hK o_scan hj hL (by omega) (by omega) hSim hi1 hi2 hLW hS hl tail
                                    · by_cases n16 : w = 16
                                      · refine lv_tableIn (tgt := 632) hx hb dLaw_law_32 (by rw [n16]; decide) (by rw [n16]; decide) (by rw [n16]; rfl) (by decide) ?_
                                        exact law_leak C0 hK o_leak hj hL (by omega) (by omega) hSim hi1 hi2 hLW hS hl tail
                                      · have t0 := lv_neT n0 (show (0 : Int32).toInt = 0 by decide)
                                        have t1 := lv_neT n1 (show (1 : Int32).toInt = 1 by decide)
                                        have t2 := lv_neT n2 (show (2 : Int32).toInt = 2 by decide)
                                        have t3 := lv_neT n3 (show (3 : Int32).toInt = 3 by decide)
                                        have t4 := lv_neT n4 (show (4 : Int32).toInt = 4 by decide)
                                        have t5 := lv_neT n5 (show (5 : Int32).toInt = 5 by decide)
                                        have t6 := lv_neT n6 (show (6 : Int32).toInt = 6 by decide)
                                        have t7 := lv_neT n7 (show (7 : Int32).toInt = 7 by decide)
                                        have t8 := lv_neT n8 (show (8 : Int32).toInt = 8 by decide)
                                        have t9 := lv_neT n9 (show (9 : Int32).toInt = 9 by decide)
                                        have t10 := lv_neT n10 (show (10 : Int32).toInt = 10 by decide)
                                        have t11 := lv_neT n11 (show (11 : Int32).toInt = 11 by decide)
                                        have t12 := lv_neT n12 (show (12 : Int32).toInt = 12 by decide)
                                        have t13 := lv_neT n13 (show (13 : Int32).toInt = 13 by decide)
                                        have t14 := lv_neT n14 (show (14 : Int32).toInt = 14 by decide)
                                        have t15 := lv_neT n15 (show (15 : Int32).toInt = 15 by decide)
                                        have t16 := lv_neT n16 (show (16 : Int32).toInt = 16 by decide)
                                        refine lv_tableOut (tgt := 655) hx hb dLaw_law_32 (by omega) (by decide) ?_
                                        refine W.widen (k := 100 + 7 * j + 7) (n := 20000 + 910 * j + 910) (by omega) (by omega) ?_
                                        exact tail G1 G2 sz H locs hSim hLW hS
theorem g_isN_on {w : Cond} (h : g_isN w = true) : w.onTables = true := by
  cases w <;> first | rfl | (simp [g_isN] at h)
theorem g_W.sub {D : va_G} {cl : List vw_C} {A : Nat → Prop} {G G' : Nat → Option gE} {sz : Nat} {U : State} {H : Heap} (h : g_W D cl A (G, sz) U H) (hs : ∀ a x, G' a = some x → G a = some x) : g_W D cl A (G', sz) U H := ⟨h.1, fun a x hx => h.2 a x (hs a x hx)⟩
set_option maxHeartbeats 4000000 in
set_option maxRecDepth 100000 in
theorem law_start_open (Sim : Nat → Nat → (Nat → Option gE) → (Nat → Option gE) → Nat → Prop) (n : Nat) (hI : ∀ sz : Nat, ∃ z1 z2 : gS, fMain_init n sz (g_nw (fun _ => none, sz) (.inr (8, [.null, .null, .null, .null, .null, .null, .int 0, .int 0, .int 0, .int 0, .int 0, .int 0, .int 0, .int 0]))) = some z1 ∧ fRef_init n z1.2 (fun q => if q = z1.2 then some (.inr (9, [.int 0, .int 0, .int 0, .int 0, .int 0, .int 0, .int 0, .null, .null, .null, .null, .null, .null, .null, .null, .null, .null, .null, .int 0, .null, .null, .null, .null, .null, .null, .null, .null, .null, .null, .null, .null, .null, .null, .int 0, .int 0, .int 0])) else none, z1.2 + 1) = some z2 ∧ Sim sz z1.2 z1.1 z2.1 z2.2) (hO : ∀ x y : Nat, LOK n x y (Sim x y)) {p : Program} {e : Env} {s : State} {m : MethodId} {below : List Frame} {meth : Method} {c : Code} (l : Launch) {b L : Nat} {xs : Nat → Int32} (hL : L ≤ 2560) (C0 : lw_At p s m meth c b L xs) : W p l e room_1 s m #[Value.ref b] below meth c s.heap [] 0 0 (lw_Z below #[Value.ref b] s) (entryFrame m ([Value.ref b] : List Value).toArray 4) := by
  obtain ⟨hx, hb, hr, hml, hown, hts, hX, hbl, hlocks, hgv⟩ := id C0
  have hg : ∀ w ∈ gW, w.before #[Value.ref b] s = true := fun w hw => hts w (List.mem_filter.mp hw).1
  have hA : ∀ q : Nat, s.heap.size ≤ q → (fun q : Nat => s.heap.size ≤ q) q := fun _ h => h
  have hbA : ¬ (fun q : Nat => s.heap.size ≤ q) b := Nat.not_le.mpr hbl
  obtain ⟨c0, iS0, hKn0⟩ := u_known (C := "SecretRows$Text") (T := T_Text) (N := 2) (n := 2) hg in_Text (hg _ kw_41)
  obtain ⟨c1, iS1, hKn1⟩ := u_known (C := "SecretRows$Value") (T := T_Value) (N := 4) (n := 4) hg in_Value (hg _ kw_215)
  obtain ⟨c2, iS2, hKn2⟩ := u_known (C := "SecretRows$Secret") (T := T_Secret) (N := 7) (n := 7) hg in_Secret (hg _ kw_128)
  obtain ⟨c3, iS3, hKn3⟩ := u_known (C := "SecretRows$Log") (T := T_Log) (N := 5) (n := 5) hg in_Log (hg _ kw_290)
  obtain ⟨c4, iS4, hKn4⟩ := u_known (C := "SecretRows$Step") (T := T_Step) (N := 2) (n := 2) hg in_Step (hg _ kw_282)
  obtain ⟨c5, iS5, hKn5⟩ := u_known (C := "SecretRows$Token") (T := T_Token) (N := 3) (n := 3) hg in_Token (hg _ kw_463)
  obtain ⟨c6, iS6, hKn6⟩ := u_known (C := "SecretRows$Audit") (T := T_Audit) (N := 2) (n := 2) hg in_Audit (hg _ kw_27)
  obtain ⟨c7, iS7, hKn7⟩ := u_known (C := "SecretRows$Forms") (T := T_Forms) (N := 5) (n := 5) hg in_Forms (hg _ kw_58)
  obtain ⟨c8, iS8, hKn8⟩ := u_known (C := "SecretRows") (T := T_Main) (N := 14) (n := 14) hg in_Main (hg _ kw_13)
  obtain ⟨c9, iS9, hKn9⟩ := u_known (C := "SecretRowsModel") (T := T_Ref) (N := 36) (n := 36) hg in_Ref (hg _ kw_515)
  obtain ⟨dC, dI, hKc⟩ : ∃ (dC : Nat → ClassId) (dI : Nat → Nat → Nat), ∀ (k : Nat) (q : vw_C), vwCl[k]? = some q → u_Kn s q.1 q.2.1 q.2.2 (dC k) (dI k) := by
    refine ⟨fun k => if k = 0 then c0 else if k = 1 then c1 else if k = 2 then c2 else if k = 3 then c3 else if k = 4 then c4 else if k = 5 then c5 else if k = 6 then c6 else if k = 7 then c7 else if k = 8 then c8 else c9, fun k => if k = 0 then iS0 else if k = 1 then iS1 else if k = 2 then iS2 else if k = 3 then iS3 else if k = 4 then iS4 else if k = 5 then iS5 else if k = 6 then iS6 else if k = 7 then iS7 else if k = 8 then iS8 else iS9, ?_⟩
    intro k q hq
    match k, hq with
    | 0, hq => cases hq; exact hKn0
    | 1, hq => cases hq; exact hKn1
    | 2, hq => cases hq; exact hKn2
    | 3, hq => cases hq; exact hKn3
    | 4, hq => cases hq; exact hKn4
    | 5, hq => cases hq; exact hKn5
    | 6, hq => cases hq; exact hKn6
    | 7, hq => cases hq; exact hKn7
    | 8, hq => cases hq; exact hKn8
    | 9, hq => cases hq; exact hKn9
    | k + 10, hq => simp [vwCl] at hq
  have hK : g_K (dC, dI) vwCl gNN gOO s := by
    refine ⟨⟨hKc, fun k q h => by simp at h⟩, fun w hw => ⟨(List.mem_filter.mp hw).2, va_Nw.of (g_isN_on (List.mem_filter.mp hw).2) (hts w (List.mem_filter.mp hw).1)⟩, fun C hC => ?_⟩
    simp only [gOO, List.mem_cons, List.not_mem_nil, or_false] at hC
    rcases hC with rfl | rfl | rfl | rfl | rfl
    · exact va_AO.of (hts _ (List.mem_append_right _ (List.mem_of_getElem? (i := 21) (by decide +kernel))))
    · exact va_AO.of (hts _ (List.mem_append_right _ (List.mem_of_getElem? (i := 23) (by decide +kernel))))
    · exact va_AO.of (hts _ (List.mem_append_right _ (List.mem_of_getElem? (i := 64) (by decide +kernel))))
    · exact va_AO.of (hts _ (List.mem_append_right _ (List.mem_of_getElem? (i := 25) (by decide +kernel))))
    · exact va_AO.of (hts _ (List.mem_append_right _ (List.mem_of_getElem? (i := 288) (by decide +kernel))))
  obtain ⟨z1, z2, e1, e2, hs⟩ := hI s.heap.size
  have hS : va_S (fun q : Nat => s.heap.size ≤ q) s.heap s.heap [] := va_S.rf
  have hW : g_W (dC, dI) vwCl (fun q : Nat => s.heap.size ≤ q) ((fun _ => none, s.heap.size) : gS) s s.heap := ⟨rfl, fun a x h => by cases h⟩
  have hl := lv_entry ([.ref b]) (n := 4) (Nat.le_of_ble_eq_true rfl)
  rw [lg_entry_eq]
  generalize (lg_sl ([.ref b]) ++ List.replicate (4 - (lg_sl ([.ref b])).length) Slot.unset).toArray = ls at hl ⊢
  have hl : lv_has ls 4 [(0, .ref b)] := hl
  refine g_newO (z := ((fun _ => none, s.heap.size) : gS)) (z1 := g_nw (fun _ => none, s.heap.size) (.inr (8, [.null, .null, .null, .null, .null, .null, .int 0, .int 0, .int 0, .int 0, .int 0, .int 0, .int 0, .int 0]))) (q := s.heap.size) (fs := [.null, .null, .null, .null, .null, .null, .int 0, .int 0, .int 0, .int 0, .int 0, .int 0, .int 0, .int 0]) hx hb hg in_Main ty_Main tyok_Main hown (hg _ kw_12) (hg _ kw_13) (hg _ kw_1) hK hW hS hA (ci := 8) (C := "SecretRows") (T := T_Main) (N := 14) rfl (fun j hj => by rcases (show j = 0 ∨ j = 1 ∨ j = 2 ∨ j = 3 ∨ j = 4 ∨ j = 5 ∨ j = 6 ∨ j = 7 ∨ j = 8 ∨ j = 9 ∨ j = 10 ∨ j = 11 ∨ j = 12 ∨ j = 13 by omega) with rfl | rfl | rfl | rfl | rfl | rfl | rfl | rfl | rfl | rfl | rfl | rfl | rfl | rfl <;> rfl) (Nat.le_of_ble_eq_true rfl) (Nat.le_of_ble_eq_true rfl) rfl dLaw_law_0 (fun H hW hS => ?_)
  refine lv_dup hx hb dLaw_law_3 rfl ?_
  have hLW : lW (dC, dI) s H (g_nw (fun _ => none, s.heap.size) (.inr (8, [.null, .null, .null, .null, .null, .null, .int 0, .int 0, .int 0, .int 0, .int 0, .int 0, .int 0, .int 0]))).1 (fun _ => none) (s.heap.size + 1) := ⟨hW, ⟨hW.1, fun a x h => by cases h⟩, fun q _ => rfl⟩
  refine l_gov (l_rI (G := (g_nw (fun _ => none, s.heap.size) (.inr (8, [.null, .null, .null, .null, .null, .null, .int 0, .int 0, .int 0, .int 0, .int 0, .int 0, .int 0, .int 0]))).1) (sz := (s.heap.size + 1)) (As := []) (rest := [.ref s.heap.size]) ⟨hx, hb, hml, hown, hg⟩ (mMain_init l (dC, dI) (lA (g_nw (fun _ => none, s.heap.size) (.inr (8, [.null, .null, .null, .null, .null, .null, .int 0, .int 0, .int 0, .int 0, .int 0, .int 0, .int 0, .int 0]))).1 (s.heap.size + 1)) n _ _ s.heap.size e1) (cwI 0 hg (gi_I kw_16) rfl rfl rfl (hg _ kw_1) (hg _ kw_14) (hg _ kw_15) rfl hdMain_init ⟨Nat.le_of_ble_eq_true rfl, Nat.le_of_ble_eq_true rfl⟩) hK hLW.1 rfl hl.1 rfl (Nat.le_of_ble_eq_true rfl) dLaw_law_4 ⟨Nat.le_of_ble_eq_true rfl, Nat.le_of_ble_eq_true rfl⟩) hS hLW.1 (fun H locs hB hk hS1 => ?_)
  replace hLW := hLW.one hB hk hS.1
  replace hS := hS1
  clear hS1 hB hk hW
  refine W.cs (cells' := 13) (slots' := 1205) rfl rfl ?_
  refine lv_astore_n (lv' := [(1, .ref s.heap.size), (0, .ref b)]) hx hb dLaw_law_7 rfl hl (by decide) rfl (fun _ hl1 => ?_)
  clear hl
  have hl := hl1
  clear hl1
  have hW := hLW.1
  refine g_newO (z := z1) (z1 := g_nw z1 (.inr (9, [.int 0, .int 0, .int 0, .int 0, .int 0, .int 0, .int 0, .null, .null, .null, .null, .null, .null, .null, .null, .null, .null, .null, .int 0, .null, .null, .null, .null, .null, .null, .null, .null, .null, .null, .null, .null, .null, .null, .int 0, .int 0, .int 0]))) (q := z1.2) (fs := [.int 0, .int 0, .int 0, .int 0, .int 0, .int 0, .int 0, .null, .null, .null, .null, .null, .null, .null, .null, .null, .null, .null, .int 0, .null, .null, .null, .null, .null, .null, .null, .null, .null, .null, .null, .null, .null, .null, .int 0, .int 0, .int 0]) hx hb hg in_Ref ty_Ref tyok_Ref hown (hg _ kw_514) (hg _ kw_515) (hg _ kw_6) hK hW hS hA (ci := 9) (C := "SecretRowsModel") (T := T_Ref) (N := 36) rfl (fun j hj => by rcases (show j = 0 ∨ j = 1 ∨ j = 2 ∨ j = 3 ∨ j = 4 ∨ j = 5 ∨ j = 6 ∨ j = 7 ∨ j = 8 ∨ j = 9 ∨ j = 10 ∨ j = 11 ∨ j = 12 ∨ j = 13 ∨ j = 14 ∨ j = 15 ∨ j = 16 ∨ j = 17 ∨ j = 18 ∨ j = 19 ∨ j = 20 ∨ j = 21 ∨ j = 22 ∨ j = 23 ∨ j = 24 ∨ j = 25 ∨ j = 26 ∨ j = 27 ∨ j = 28 ∨ j = 29 ∨ j = 30 ∨ j = 31 ∨ j = 32 ∨ j = 33 ∨ j = 34 ∨ j = 35 by omega) with rfl | rfl | rfl | rfl | rfl | rfl | rfl | rfl | rfl | rfl | rfl | rfl | rfl | rfl | rfl | rfl | rfl | rfl | rfl | rfl | rfl | rfl | rfl | rfl | rfl | rfl | rfl | rfl | rfl | rfl | rfl | rfl | rfl | rfl | rfl | rfl <;> rfl) (Nat.le_of_ble_eq_true rfl) (Nat.le_of_ble_eq_true rfl) rfl dLaw_law_8 (fun H hW hS => ?_)
  refine lv_dup hx hb dLaw_law_11 rfl ?_
  have hfr : ∀ a x, z1.1 a = some x → a ≠ z1.2 := fun a x h q => by
    have := g_W.fresh hLW.1 (a := a) (by rw [q]; exact Nat.le_refl _)
    rw [show z1.1 a = some x from h] at this
    cases this
  replace hLW : lW (dC, dI) s H z1.1 (fun q => if q = z1.2 then some (.inr (9, [.int 0, .int 0, .int 0, .int 0, .int 0, .int 0, .int 0, .null, .null, .null, .null, .null, .null, .null, .null, .null, .null, .null, .int 0, .null, .null, .null, .null, .null, .null, .null, .null, .null, .null, .null, .null, .null, .null, .int 0, .int 0, .int 0])) else none) (z1.2 + 1) := by
    refine ⟨hW.sub (G' := z1.1) (fun a x h => ?_), hW.sub (G' := fun q => if q = z1.2 then some (.inr (9, [.int 0, .int 0, .int 0, .int 0, .int 0, .int 0, .int 0, .null, .null, .null, .null, .null, .null, .null, .null, .null, .null, .null, .int 0, .null, .null, .null, .null, .null, .null, .null, .null, .null, .null, .null, .null, .null, .null, .int 0, .int 0, .int 0])) else none) (fun a x h => ?_), fun q hq => ?_⟩
    · show (if a = z1.2 then _ else _) = _
      rw [if_neg (hfr a x h)]
      exact h
    · by_cases ha : a = z1.2
      · rw [if_pos ha] at h
        show (if a = z1.2 then _ else _) = _
        rw [if_pos ha]
        exact h
      · rw [if_neg ha] at h
        cases h
    · cases h9 : z1.1 q with
      | none => exact absurd h9 hq
      | some x => show (if q = z1.2 then _ else _) = _; rw [if_neg (hfr q x h9)]
  refine l_gov (l_rI (G := (fun q => if q = z1.2 then some (.inr (9, [.int 0, .int 0, .int 0, .int 0, .int 0, .int 0, .int 0, .null, .null, .null, .null, .null, .null, .null, .null, .null, .null, .null, .int 0, .null, .null, .null, .null, .null, .null, .null, .null, .null, .null, .null, .null, .null, .null, .int 0, .int 0, .int 0])) else none)) (sz := (z1.2 + 1)) (As := []) (rest := [.ref z1.2]) ⟨hx, hb, hml, hown, hg⟩ (mRef_init l (dC, dI) (lA (fun q => if q = z1.2 then some (.inr (9, [.int 0, .int 0, .int 0, .int 0, .int 0, .int 0, .int 0, .null, .null, .null, .null, .null, .null, .null, .null, .null, .null, .null, .int 0, .null, .null, .null, .null, .null, .null, .null, .null, .null, .null, .null, .null, .null, .null, .int 0, .int 0, .int 0])) else none) (z1.2 + 1)) n _ _ z1.2 e2) (cwI 0 hg (gi_I kw_518) rfl rfl rfl (hg _ kw_6) (hg _ kw_516) (hg _ kw_517) rfl hdRef_init ⟨Nat.le_of_ble_eq_true rfl, Nat.le_of_ble_eq_true rfl⟩) hK hLW.2.1 rfl hl.1 rfl (Nat.le_of_ble_eq_true rfl) dLaw_law_12 ⟨Nat.le_of_ble_eq_true rfl, Nat.le_of_ble_eq_true rfl⟩) hS hLW.2.1 (fun H locs hB hk hS1 => ?_)
  replace hLW := (hLW.swap.one hB hk hS.1).swap
  replace hS := hS1
  clear hS1 hB hk hW
  refine lv_astore_n (lv' := [(2, .ref z1.2), (1, .ref s.heap.size), (0, .ref b)]) hx hb dLaw_law_15 rfl hl (by decide) rfl (fun _ hl1 => ?_)
  clear hl
  have hl := hl1
  clear hl1
  refine lv_iconst (v := 0) hx hb dLaw_law_16 (by decide) ?_
  refine lv_istore_n (lv' := [(3, .int 0), (2, .ref z1.2), (1, .ref s.heap.size), (0, .ref b)]) hx hb dLaw_law_17 rfl hl (by decide) rfl (fun _ hl1 => ?_)
  clear hl
  have hl := hl1
  clear hl1
  refine W.widen (k := 100 + 7 * 0) (n := 20000 + 910 * 0) (Nat.le_of_ble_eq_true rfl) (Nat.le_of_ble_eq_true rfl) ?_
  exact law_loop C0 hK (hO _ _) hL (L + 1) 0 (by omega) (by omega) _ _ _ _ _ _ hs hLW hS (lv_sub hl [3, 2, 1, 0] rfl)
