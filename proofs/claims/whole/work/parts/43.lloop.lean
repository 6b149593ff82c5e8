/-! ===== the law's loop ===== -/
theorem gd_law {N i : Nat} (hN : N ≤ 1536) (hi : i ≤ 3000) (h : ¬ nI N - 3 < nI i) : i + 2 < N := by
  rcases Nat.lt_or_ge N 3 with h3 | h3
  · exfalso
    apply h
    have h0 : nI N - 3 < 0 := by
      rcases (show N = 0 ∨ N = 1 ∨ N = 2 by omega) with rfl | rfl | rfl <;> decide +kernel
    exact Int32.lt_of_lt_of_le h0 (nI_pos' (by omega))
  · have e : nI N - 3 = nI (N - 3) := pk_sub (b := 3) h3
    rw [e] at h
    rcases Nat.lt_or_ge (N - 3) i with q | q
    · exact absurd (nI_lt q (by omega)) h
    · omega
theorem nI_3 : (Int32.ofInt 3 : Int32) = nI 3 := by decide +kernel
set_option maxHeartbeats 4000000 in
set_option maxRecDepth 100000 in
theorem law_step (l : Launch) {p : Program} {e : Env} {s : State} {m : MethodId} {below : List Frame} {meth : Method} {c : Code} {b N : Nat} {xs : Nat → Int32} {D : va_G} {cI cZ cJ : ClassId} {q r : Nat → Nat} {o : Nat} {Q : State → Prop} {i cells slots : Nat} {H : Heap} {locs : List Loc} {ls : Array Slot} (C : LCtx l p s m c b N xs D cI cZ cJ) (hN3 : N ≤ 1536) (h : LStt s D cI cZ cJ q r o b i H locs ls) (hiN : i ≤ N) (hcl : cells + 9 ≤ 621274) (hsl : slots + 58 ≤ 7232283)
    (kend : ∀ (H : Heap) (locs : List Loc) (ls : Array Slot), va_S (lA s) s.heap H locs → W p l e room_1 s m #[Value.ref b] below meth c H locs cells slots Q (F0 m 1549 ls []))
    (knext : i + 2 < N → ∀ (H : Heap) (locs : List Loc) (ls : Array Slot), LStt s D cI cZ cJ q r o b (i + 3) H locs ls → W p l e room_1 s m #[Value.ref b] below meth c H locs (cells + 9) (slots + 58) Q (F0 m 23 ls [])) :
    W p l e room_1 s m #[Value.ref b] below meth c H locs cells slots Q (F0 m 23 ls []) := by
  obtain ⟨hx, hb, hml, hown, hts, hX, hbl, hN, hl0, hK, hE0⟩ := id C
  obtain ⟨th, tc, nc, ac, ch, U, Z, V, Y, B, L, F, f, hS, hP, hD, htc, hnc, hac, hu, hz, hB, hB0, hl⟩ := id h
  have hbA : ¬ lA s b := Nat.not_le.mpr hbl
  refine lv_iload hx hb dL_law_23 (lv_at hl 0 rfl) ?_
  refine lv_aload_n hx hb dL_law_25 rfl (lv_at hl 4 rfl) ?_
  refine va_slen hx hb hX hbl hbA hS dL_law_26 ?_
  refine lv_iconst (v := 3) hx hb dL_law_27 (by decide) ?_
  refine lv_isub hx hb dL_law_28 ?_
  refine lv_icmp_gt (tgt := 1549) hx hb dL_law_29 (by decide) (fun _ => kend _ _ _ hS) (fun hg => ?_)
  have hi2 : i + 2 < N := gd_law hN3 (by omega) hg
  have hk : ∀ (H : Heap) (locs : List Loc) (ls : Array Slot), LStt s D cI cZ cJ q r o b i H locs ls → W p l e room_1 s m #[Value.ref b] below meth c H locs (cells + 9) (slots + 58) Q (F0 m 1543 ls []) := by
    intro H locs ls h
    obtain ⟨th, tc, nc, ac, ch, U, Z, V, Y, B, L, F, f, hS, hP, hD, htc, hnc, hac, hu, hz, hB, hB0, hl⟩ := h
    refine lv_iinc (v := nI (i + 3)) (lv' := [(4, .int (nI (i + 3))), (3, .ref o), (2, .ref (r 0)), (1, .ref (q 0)), (0, .ref b)]) hx hb dL_law_1543 hl (k := 0) rfl (by rw [nI_3]; exact nI_add i 3) (by decide) rfl (fun ls hl => ?_)
    refine lv_goto (tgt := 23) hx hb dL_law_1546 (by decide) ?_
    exact knext hi2 _ _ _ ⟨th, tc, nc, ac, ch, U, Z, V, Y, B, L, F, f, hS, hP, hD, htc, hnc, hac, hu, hz, hB, hB0, hl⟩
  refine lv_aload_n hx hb dL_law_32 rfl (lv_at hl 4 rfl) ?_
  refine lv_iload hx hb dL_law_33 (lv_at hl 0 rfl) ?_
  refine s_ld hx hb hX hbl hbA hS (j := i) (by omega) hN dL_law_35 ?_
  refine lv_bipush (v := 63) hx hb dL_law_36 (by decide) ?_
  refine lv_iand hx hb dL_law_38 ?_
  generalize xs i &&& 63 = x
  by_cases ho : x.toInt < 0 ∨ 32 < x.toInt
  · refine lv_tableOut (tgt := 1543) hx hb dL_law_39 ho (by decide) ?_
    exact W.widen (k := cells + 9) (n := slots + 58) (by omega) (by omega) (hk _ _ _ h)
  · obtain ⟨n, hn⟩ : ∃ n : Nat, x.toInt = n := ⟨x.toInt.toNat, by omega⟩
    rcases (show n = 0 ∨ n = 1 ∨ n = 2 ∨ n = 3 ∨ n = 4 ∨ n = 5 ∨ n = 6 ∨ n = 7 ∨ n = 8 ∨ n = 9 ∨ n = 10 ∨ n = 11 ∨ n = 12 ∨ n = 13 ∨ n = 14 ∨ n = 15 ∨ n = 16 ∨ n = 17 ∨ n = 18 ∨ n = 19 ∨ n = 20 ∨ n = 21 ∨ n = 22 ∨ n = 23 ∨ n = 24 ∨ n = 25 ∨ n = 26 ∨ n = 27 ∨ n = 28 ∨ n = 29 ∨ n = 30 ∨ n = 31 ∨ n = 32 by omega) with rfl | rfl | rfl | rfl | rfl | rfl | rfl | rfl | rfl | rfl | rfl | rfl | rfl | rfl | rfl | rfl | rfl | rfl | rfl | rfl | rfl | rfl | rfl | rfl | rfl | rfl | rfl | rfl | rfl | rfl | rfl | rfl | rfl
    · exact lv_tableIn (off := 145) (tgt := 184) hx hb dL_law_39 (by rw [hn]; decide) (by rw [hn]; decide) (by rw [hn]; rfl) (by decide) (lc_addThing l C h hi2 hcl hsl hk)
    · exact lv_tableIn (off := 189) (tgt := 228) hx hb dL_law_39 (by rw [hn]; decide) (by rw [hn]; decide) (by rw [hn]; rfl) (by decide) (lc_addAstronomer l C h hi2 hcl hsl hk)
    · exact lv_tableIn (off := 245) (tgt := 284) hx hb dL_law_39 (by rw [hn]; decide) (by rw [hn]; decide) (by rw [hn]; rfl) (by decide) (lc_blame l C h hi2 hcl hsl hk)
    · exact lv_tableIn (off := 313) (tgt := 352) hx hb dL_law_39 (by rw [hn]; decide) (by rw [hn]; decide) (by rw [hn]; rfl) (by decide) (lc_writeDown l C h hi2 hcl hsl hk)
    · exact lv_tableIn (off := 397) (tgt := 436) hx hb dL_law_39 (by rw [hn]; decide) (by rw [hn]; decide) (by rw [hn]; rfl) (by decide) (lc_strike l C h hi2 hcl hsl hk)
    · exact lv_tableIn (off := 453) (tgt := 492) hx hb dL_law_39 (by rw [hn]; decide) (by rw [hn]; decide) (by rw [hn]; rfl) (by decide) (lc_things l C h hi2 hcl hsl hk)
    · exact lv_tableIn (off := 466) (tgt := 505) hx hb dL_law_39 (by rw [hn]; decide) (by rw [hn]; decide) (by rw [hn]; rfl) (by decide) (lc_nightsWith l C h hi2 hcl hsl hk)
    · exact lv_tableIn (off := 522) (tgt := 561) hx hb dL_law_39 (by rw [hn]; decide) (by rw [hn]; decide) (by rw [hn]; rfl) (by decide) (lc_smudgesWith l C h hi2 hcl hsl hk)
    · exact lv_tableIn (off := 578) (tgt := 617) hx hb dL_law_39 (by rw [hn]; decide) (by rw [hn]; decide) (by rw [hn]; rfl) (by decide) (lc_isCleared l C h hi2 hcl hsl hk)
    · exact lv_tableIn (off := 641) (tgt := 680) hx hb dL_law_39 (by rw [hn]; decide) (by rw [hn]; decide) (by rw [hn]; rfl) (by decide) (lc_isProved l C h hi2 hcl hsl hk)
    · exact lv_tableIn (off := 704) (tgt := 743) hx hb dL_law_39 (by rw [hn]; decide) (by rw [hn]; decide) (by rw [hn]; rfl) (by decide) (lc_setsWith l C h hi2 hcl hsl hk)
    · exact lv_tableIn (off := 760) (tgt := 799) hx hb dL_law_39 (by rw [hn]; decide) (by rw [hn]; decide) (by rw [hn]; rfl) (by decide) (lc_nights l C h hi2 hcl hsl hk)
    · exact lv_tableIn (off := 773) (tgt := 812) hx hb dL_law_39 (by rw [hn]; decide) (by rw [hn]; decide) (by rw [hn]; rfl) (by decide) (lc_smudges l C h hi2 hcl hsl hk)
    · exact lv_tableIn (off := 786) (tgt := 825) hx hb dL_law_39 (by rw [hn]; decide) (by rw [hn]; decide) (by rw [hn]; rfl) (by decide) (lc_usedIn l C h hi2 hcl hsl hk)
    · exact lv_tableIn (off := 842) (tgt := 881) hx hb dL_law_39 (by rw [hn]; decide) (by rw [hn]; decide) (by rw [hn]; rfl) (by decide) (lc_isSmudged l C h hi2 hcl hsl hk)
    · exact lv_tableIn (off := 905) (tgt := 944) hx hb dL_law_39 (by rw [hn]; decide) (by rw [hn]; decide) (by rw [hn]; rfl) (by decide) (lc_agree l C h hi2 hcl hsl hk)
    · exact lv_tableIn (off := 918) (tgt := 957) hx hb dL_law_39 (by rw [hn]; decide) (by rw [hn]; decide) (by rw [hn]; rfl) (by decide) (lc_astronomers l C h hi2 hcl hsl hk)
    · exact lv_tableIn (off := 931) (tgt := 970) hx hb dL_law_39 (by rw [hn]; decide) (by rw [hn]; decide) (by rw [hn]; rfl) (by decide) (lc_blamedBy l C h hi2 hcl hsl hk)
    · exact lv_tableIn (off := 987) (tgt := 1026) hx hb dL_law_39 (by rw [hn]; decide) (by rw [hn]; decide) (by rw [hn]; rfl) (by decide) (lc_stubbornnessOf l C h hi2 hcl hsl hk)
    · exact lv_tableIn (off := 1043) (tgt := 1082) hx hb dL_law_39 (by rw [hn]; decide) (by rw [hn]; decide) (by rw [hn]; rfl) (by decide) (lc_unexplainedBy l C h hi2 hcl hsl hk)
    · exact lv_tableIn (off := 1099) (tgt := 1138) hx hb dL_law_39 (by rw [hn]; decide) (by rw [hn]; decide) (by rw [hn]; rfl) (by decide) (lc_votesFor l C h hi2 hcl hsl hk)
    · exact lv_tableIn (off := 1155) (tgt := 1194) hx hb dL_law_39 (by rw [hn]; decide) (by rw [hn]; decide) (by rw [hn]; rfl) (by decide) (lc_vote l C h hi2 hcl hsl hk)
    · exact lv_tableIn (off := 1168) (tgt := 1207) hx hb dL_law_39 (by rw [hn]; decide) (by rw [hn]; decide) (by rw [hn]; rfl) (by decide) (lc_changesOfMind l C h hi2 hcl hsl hk)
    · exact lv_tableIn (off := 1181) (tgt := 1220) hx hb dL_law_39 (by rw [hn]; decide) (by rw [hn]; decide) (by rw [hn]; rfl) (by decide) (lc_explainsAll l C h hi2 hcl hsl hk)
    · exact lv_tableIn (off := 1244) (tgt := 1283) hx hb dL_law_39 (by rw [hn]; decide) (by rw [hn]; decide) (by rw [hn]; rfl) (by decide) (lc_explanations l C h hi2 hcl hsl hk)
    · exact lv_tableIn (off := 1257) (tgt := 1296) hx hb dL_law_39 (by rw [hn]; decide) (by rw [hn]; decide) (by rw [hn]; rfl) (by decide) (lc_simplest l C h hi2 hcl hsl hk)
    · exact lv_tableIn (off := 1270) (tgt := 1309) hx hb dL_law_39 (by rw [hn]; decide) (by rw [hn]; decide) (by rw [hn]; rfl) (by decide) (lc_surelyToBlame l C h hi2 hcl hsl hk)
    · exact lv_tableIn (off := 1283) (tgt := 1322) hx hb dL_law_39 (by rw [hn]; decide) (by rw [hn]; decide) (by rw [hn]; rfl) (by decide) (lc_nightsToDoubt l C h hi2 hcl hsl hk)
    · exact lv_tableIn (off := 1296) (tgt := 1335) hx hb dL_law_39 (by rw [hn]; decide) (by rw [hn]; decide) (by rw [hn]; rfl) (by decide) (lc_leftIfSmudged l C h hi2 hcl hsl hk)
    · exact lv_tableIn (off := 1352) (tgt := 1391) hx hb dL_law_39 (by rw [hn]; decide) (by rw [hn]; decide) (by rw [hn]; rfl) (by decide) (lc_bestNight l C h hi2 hcl hsl hk)
    · exact lv_tableIn (off := 1365) (tgt := 1404) hx hb dL_law_39 (by rw [hn]; decide) (by rw [hn]; decide) (by rw [hn]; rfl) (by decide) (lc_wouldChange l C h hi2 hcl hsl hk)
    · exact lv_tableIn (off := 1449) (tgt := 1488) hx hb dL_law_39 (by rw [hn]; decide) (by rw [hn]; decide) (by rw [hn]; rfl) (by decide) (lc_meanBlame l C h hi2 hcl hsl hk)
    · exact lv_tableIn (off := 1490) (tgt := 1529) hx hb dL_law_39 (by rw [hn]; decide) (by rw [hn]; decide) (by rw [hn]; rfl) (by decide) (lc_digest l C h hi2 hcl hsl hk)
theorem law_loop (l : Launch) {p : Program} {e : Env} {s : State} {m : MethodId} {below : List Frame} {meth : Method} {c : Code} {b N : Nat} {xs : Nat → Int32} {D : va_G} {cI cZ cJ : ClassId} {q r : Nat → Nat} {o : Nat} {Q : State → Prop} (C : LCtx l p s m c b N xs D cI cZ cJ) (hN3 : N ≤ 1536)
    (kend : ∀ (H : Heap) (locs : List Loc) (ls : Array Slot) (cells slots : Nat), cells ≤ 621274 → slots ≤ 7232283 → va_S (lA s) s.heap H locs → W p l e room_1 s m #[Value.ref b] below meth c H locs cells slots Q (F0 m 1549 ls [])) :
    ∀ (n i cells slots : Nat) (H : Heap) (locs : List Loc) (ls : Array Slot), i ≤ N → N ≤ i + 3 * n → cells + 9 * (n + 1) ≤ 621274 → slots + 58 * (n + 1) ≤ 7232283 → LStt s D cI cZ cJ q r o b i H locs ls → W p l e room_1 s m #[Value.ref b] below meth c H locs cells slots Q (F0 m 23 ls []) := by
  intro n
  induction n with
  | zero =>
    intro i cells slots H locs ls h1 h2 h3 h4 h
    exact law_step l C hN3 h h1 (by omega) (by omega) (fun H locs ls hS => kend H locs ls cells slots (by omega) (by omega) hS) (fun hlt => absurd hlt (by omega))
  | succ n ih =>
    intro i cells slots H locs ls h1 h2 h3 h4 h
    exact law_step l C hN3 h h1 (by omega) (by omega) (fun H locs ls hS => kend H locs ls cells slots (by omega) (by omega) hS) (fun hlt H locs ls h => ih (i + 3) (cells + 9) (slots + 58) H locs ls (by omega) (by omega) (by omega) (by omega) h)
theorem ty_uniqI {D : va_G} {cl : List vw_C} {tys tys2 : List (ClassId × FieldType)} {s : State} (hK : va_K D cl tys s) (hK2 : va_K D cl tys2 s) {i j : Nat} {a b : ClassId} (hi : tys[i]? = some (a, .int)) (hj : tys2[j]? = some (b, .int)) : a = b := by
  have h1 : s.vm.findClass ("[" ++ FieldType.int.toString) = some a := (hK.2 i _ hi).2
  have h2 : s.vm.findClass ("[" ++ FieldType.int.toString) = some b := (hK2.2 j _ hj).2
  exact Option.some.inj (h1.symm.trans h2)
theorem ty_uniqZ {D : va_G} {cl : List vw_C} {tys tys2 : List (ClassId × FieldType)} {s : State} (hK : va_K D cl tys s) (hK2 : va_K D cl tys2 s) {i j : Nat} {a b : ClassId} (hi : tys[i]? = some (a, .boolean)) (hj : tys2[j]? = some (b, .boolean)) : a = b := by
  have h1 : s.vm.findClass ("[" ++ FieldType.boolean.toString) = some a := (hK.2 i _ hi).2
  have h2 : s.vm.findClass ("[" ++ FieldType.boolean.toString) = some b := (hK2.2 j _ hj).2
  exact Option.some.inj (h1.symm.trans h2)
