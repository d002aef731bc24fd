/-! the loop of the law -/
theorem hc_swk28 (x : Int32) : (x.toInt < 0 ∨ 28 < x.toInt) ∨ ∃ k : Nat, k ≤ 28 ∧ x = nI k := by
  by_cases h : x.toInt < 0 ∨ (28 : Int) < x.toInt
  · exact Or.inl h
  · exact Or.inr ⟨x.toInt.toNat, by omega, hc_ofInt (by omega) (by omega)⟩
set_option maxHeartbeats 4000000 in
set_option maxRecDepth 100000 in
theorem law_loop {p : Program} {l : Launch} {e : Env} {s : State} {m : MethodId} {below : List Frame} {meth : Method} {c : Code} {b L : Nat} {xs : Nat → Int32} (hL : L ≤ 2048) (C0 : lw_At p s m meth c b L xs) {G : hcG} (hK : hcK G s) {ad : Nat → Nat} : ∀ (n i : Nat) (H : Heap) (locs : List Loc) (ls : Array Slot), i ≤ L → L + 1 ≤ i + n → lw_St G s b ad i H locs ls → W p l e room_1 s m #[Value.ref b] below meth c H locs 39 9972 (lw_Z below #[Value.ref b] s) (F0 m 18 ls []) := by
  have C1 := C0
  obtain ⟨hx, hb0, hr, hml, hown, hts0, hX, hbl, hlocks, hgv⟩ := C1
  have hb : c.code = cL_law := hb0
  have hbA : ¬ (fun q : Nat => s.heap.size ≤ q) b := Nat.not_le.mpr hbl
  intro n
  induction n with
  | zero =>
    intro i H locs ls h1 h2
    exact absurd h2 (by omega)
  | succ n ih =>
    intro i H locs ls hiL hin St
    obtain ⟨hS, hl⟩ := St.parts
    refine lv_iload_n hx hb dL_law_18 rfl (lv_at hl 3 rfl) ?_
    refine lv_aload_n hx hb dL_law_19 rfl (lv_at hl 0 rfl) ?_
    refine va_slen hx hb hX hbl hbA hS dL_law_20 ?_
    refine lv_iconst (v := nI 4) hx hb dL_law_21 (by decide +kernel) ?_
    refine lv_isub hx hb dL_law_22 ?_
    refine lv_icmp_gt (tgt := 968) hx hb dL_law_23 (by decide) (fun cg => ?_) (fun cg => ?_)
    · refine lv_iconst (v := 1) hx hb dL_law_968 (by decide) ?_
      refine va_forget (fun q hq => hS.2.2 q hq) ?_
      refine W.widen (k := 600000) (n := 7302250) (Nat.le_of_ble_eq_true rfl) (Nat.le_of_ble_eq_true rfl) ?_
      exact lw_ret hx hb0 hr hlocks dL_law_969
    · have hi : i + 4 ≤ L := by
        have cg : ¬ nI L - nI 4 < nI i := cg
        rw [Int32.lt_iff_toInt_lt, pk_sub_toInt (by omega) (by omega), nI_toInt (by omega)] at cg
        omega
      have kk : ∀ (H : Heap) (locs : List Loc) (ls : Array Slot), lw_St G s b ad i H locs ls → W p l e room_1 s m #[Value.ref b] below meth c H locs 39 9972 (lw_Z below #[Value.ref b] s) (F0 m 962 ls []) := fun H locs ls St2 => by
        obtain ⟨hS2, hl2⟩ := St2.parts
        refine lv_iinc (v := nI (i + 4)) (lv' := [(3, .int (nI (i + 4))), (0, .ref b), (1, .ref (ad 0)), (2, .ref (ad 1))]) hx hb dL_law_962 hl2 (k := 3) rfl (by rw [← nI_add i 4]; exact congrArg (fun q => nI i + q) (by decide +kernel)) (by decide) rfl (fun ls hl => ?_)
        refine lv_goto (tgt := 18) hx hb dL_law_965 (by decide) ?_
        exact ih (i + 4) _ _ _ hi (by omega) (St2.step (lv_sub hl [1, 2, 3, 0] rfl))
      have hin0 : vp_in (nI i) L := vp_in_nI (by omega) (by omega)
      refine lv_aload_n hx hb dL_law_26 rfl (lv_at hl 0 rfl) ?_
      refine lv_iload_n hx hb dL_law_27 rfl (lv_at hl 3 rfl) ?_
      refine va_sld hx hb hX hbl hbA hS hin0 dL_law_28 ?_
      refine lv_bipush (v := nI 31) hx hb dL_law_29 (by decide +kernel) ?_
      refine lv_iand hx hb dL_law_31 ?_
      generalize xs (nI i).toNatClampNeg &&& nI 31 = v
      rcases hc_swk28 v with cv | ⟨k, hk, rfl⟩
      · refine lv_tableOut (tgt := 962) hx hb dL_law_32 cv (by decide) ?_
        exact kk _ _ _ St
      · have hk28 : k = 0 ∨ k = 1 ∨ k = 2 ∨ k = 3 ∨ k = 4 ∨ k = 5 ∨ k = 6 ∨ k = 7 ∨ k = 8 ∨ k = 9 ∨ k = 10 ∨ k = 11 ∨ k = 12 ∨ k = 13 ∨ k = 14 ∨ k = 15 ∨ k = 16 ∨ k = 17 ∨ k = 18 ∨ k = 19 ∨ k = 20 ∨ k = 21 ∨ k = 22 ∨ k = 23 ∨ k = 24 ∨ k = 25 ∨ k = 26 ∨ k = 27 ∨ k = 28 := by omega
        rcases hk28 with rfl | rfl | rfl | rfl | rfl | rfl | rfl | rfl | rfl | rfl | rfl | rfl | rfl | rfl | rfl | rfl | rfl | rfl | rfl | rfl | rfl | rfl | rfl | rfl | rfl | rfl | rfl | rfl | rfl
        · refine lv_tableIn (tgt := 164) (off := 132) hx hb dL_law_32 (by decide) (by decide) (by decide +kernel) (by decide) ?_
          exact law_c0 hL C0 hK hi St kk
        · refine lv_tableIn (tgt := 187) (off := 155) hx hb dL_law_32 (by decide) (by decide) (by decide +kernel) (by decide) ?_
          exact law_c1 hL C0 hK hi St kk
        · refine lv_tableIn (tgt := 200) (off := 168) hx hb dL_law_32 (by decide) (by decide) (by decide +kernel) (by decide) ?_
          exact law_c2 hL C0 hK hi St kk
        · refine lv_tableIn (tgt := 243) (off := 211) hx hb dL_law_32 (by decide) (by decide) (by decide +kernel) (by decide) ?_
          exact law_c3 hL C0 hK hi St kk
        · refine lv_tableIn (tgt := 266) (off := 234) hx hb dL_law_32 (by decide) (by decide) (by decide +kernel) (by decide) ?_
          exact law_c4 hL C0 hK hi St kk
        · refine lv_tableIn (tgt := 309) (off := 277) hx hb dL_law_32 (by decide) (by decide) (by decide +kernel) (by decide) ?_
          exact law_c5 hL C0 hK hi St kk
        · refine lv_tableIn (tgt := 342) (off := 310) hx hb dL_law_32 (by decide) (by decide) (by decide +kernel) (by decide) ?_
          exact law_c6 hL C0 hK hi St kk
        · refine lv_tableIn (tgt := 375) (off := 343) hx hb dL_law_32 (by decide) (by decide) (by decide +kernel) (by decide) ?_
          exact law_c7 hL C0 hK hi St kk
        · refine lv_tableIn (tgt := 398) (off := 366) hx hb dL_law_32 (by decide) (by decide) (by decide +kernel) (by decide) ?_
          exact law_c8 hL C0 hK hi St kk
        · refine lv_tableIn (tgt := 431) (off := 399) hx hb dL_law_32 (by decide) (by decide) (by decide +kernel) (by decide) ?_
          exact law_c9 hL C0 hK hi St kk
        · refine lv_tableIn (tgt := 454) (off := 422) hx hb dL_law_32 (by decide) (by decide) (by decide +kernel) (by decide) ?_
          exact law_c10 hL C0 hK hi St kk
        · refine lv_tableIn (tgt := 477) (off := 445) hx hb dL_law_32 (by decide) (by decide) (by decide +kernel) (by decide) ?_
          exact law_c11 hL C0 hK hi St kk
        · refine lv_tableIn (tgt := 510) (off := 478) hx hb dL_law_32 (by decide) (by decide) (by decide +kernel) (by decide) ?_
          exact law_c12 hL C0 hK hi St kk
        · refine lv_tableIn (tgt := 553) (off := 521) hx hb dL_law_32 (by decide) (by decide) (by decide +kernel) (by decide) ?_
          exact law_c13 hL C0 hK hi St kk
        · refine lv_tableIn (tgt := 566) (off := 534) hx hb dL_law_32 (by decide) (by decide) (by decide +kernel) (by decide) ?_
          exact law_c14 hL C0 hK hi St kk
        · refine lv_tableIn (tgt := 599) (off := 567) hx hb dL_law_32 (by decide) (by decide) (by decide +kernel) (by decide) ?_
          exact law_c15 hL C0 hK hi St kk
        · refine lv_tableIn (tgt := 632) (off := 600) hx hb dL_law_32 (by decide) (by decide) (by decide +kernel) (by decide) ?_
          exact law_c16 hL C0 hK hi St kk
        · refine lv_tableIn (tgt := 665) (off := 633) hx hb dL_law_32 (by decide) (by decide) (by decide +kernel) (by decide) ?_
          exact law_c17 hL C0 hK hi St kk
        · refine lv_tableIn (tgt := 688) (off := 656) hx hb dL_law_32 (by decide) (by decide) (by decide +kernel) (by decide) ?_
          exact law_c18 hL C0 hK hi St kk
        · refine lv_tableIn (tgt := 711) (off := 679) hx hb dL_law_32 (by decide) (by decide) (by decide +kernel) (by decide) ?_
          exact law_c19 hL C0 hK hi St kk
        · refine lv_tableIn (tgt := 755) (off := 723) hx hb dL_law_32 (by decide) (by decide) (by decide +kernel) (by decide) ?_
          exact law_c20 hL C0 hK hi St kk
        · refine lv_tableIn (tgt := 788) (off := 756) hx hb dL_law_32 (by decide) (by decide) (by decide +kernel) (by decide) ?_
          exact law_c21 hL C0 hK hi St kk
        · refine lv_tableIn (tgt := 811) (off := 779) hx hb dL_law_32 (by decide) (by decide) (by decide +kernel) (by decide) ?_
          exact law_c22 hL C0 hK hi St kk
        · refine lv_tableIn (tgt := 824) (off := 792) hx hb dL_law_32 (by decide) (by decide) (by decide +kernel) (by decide) ?_
          exact law_c23 hL C0 hK hi St kk
        · refine lv_tableIn (tgt := 837) (off := 805) hx hb dL_law_32 (by decide) (by decide) (by decide +kernel) (by decide) ?_
          exact law_c24 hL C0 hK hi St kk
        · refine lv_tableIn (tgt := 870) (off := 838) hx hb dL_law_32 (by decide) (by decide) (by decide +kernel) (by decide) ?_
          exact law_c25 hL C0 hK hi St kk
        · refine lv_tableIn (tgt := 913) (off := 881) hx hb dL_law_32 (by decide) (by decide) (by decide +kernel) (by decide) ?_
          exact law_c26 hL C0 hK hi St kk
        · refine lv_tableIn (tgt := 926) (off := 894) hx hb dL_law_32 (by decide) (by decide) (by decide +kernel) (by decide) ?_
          exact law_c27 hL C0 hK hi St kk
        · refine lv_tableIn (tgt := 939) (off := 907) hx hb dL_law_32 (by decide) (by decide) (by decide +kernel) (by decide) ?_
          exact law_c28 hL C0 hK hi St kk
