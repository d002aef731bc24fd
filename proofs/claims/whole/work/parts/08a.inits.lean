/-! new arrays of a known class; a call that makes cells -/
section HN
variable {p : Program} {l : Launch} {e : Env} {R : Room} {s : State} {m : MethodId} {args : Array Value} {below : List Frame} {meth : Method} {c : Code} {H : Heap} {locs : List Loc} {cells slots : Nat} {Q : State → Prop}
variable {pc : Nat} {ls : Array Slot} {rest st0 : List Value} {a : Array Value} {A : Nat → Prop} {H0 : Heap}
theorem hc_kvI {S : Type} {G : hcG} {post : S → Prop} {f : S → va_W} {W1 wc wr : va_W} {mc ms : Nat} (hr : va_Run p l e R s m args below meth c H locs cells slots mc ms (F0 m pc ls st0) rest (va_Qv post (hcB G (va_A wc H.size) f) (va_A wc H.size) a) (va_A wc H.size)) (hP : va_P G.1 vwCl W1 H) (hD : va_D A W1) (hS : va_S A H0 H locs) (hA : ∀ q : Nat, H0.size ≤ q → A q) (isC isR : List Nat) (hC : isC.map (fun i => W1[i]?) = wc.map some) (hR : isR.map (fun i => W1[i]?) = wr.map some) (hn : va_nd isR = true) (hdis : ∀ i ∈ isR, i ∉ isC)
    (kk : ∀ (u : S) (H1 : Heap) (locs1 : List Loc), post u → va_P G.1 vwCl (wr ++ f u) H1 → va_D A (wr ++ f u) → va_S A H0 H1 locs1 → W p l e R s m args below meth c H1 locs1 (cells + mc) (slots + ms) Q (F0 m (pc + 3) ls (rest))) : W p l e R s m args below meth c H locs cells slots Q (F0 m pc ls st0) := by
  have hF := va_free hD hS hA isC hC
  refine va_callv hr hS (fun q _ h => hF q h) hF (fun u t H1 locs1 ht hvm hp hB hz hk hS1 => ?_)
  obtain ⟨hP1, hD1⟩ := hB
  rw [ht] at hP1
  obtain ⟨hP2, hD2⟩ := va_join hP hD isC isR hC hR hn hdis hk hF hP1 hD1
  exact kk u H1 locs1 hp hP2 hD2 hS1
theorem hc_newI {G : hcG} {cc : ByteArray} {W1 : va_W} (hx : p.tables.exec = Jvm.exec) (hb : c.code = cc) (harr : (Cond.arrayClass .int).before args s = true) (hK : hcK G s) (hP : va_P G.1 vwCl W1 H) (hD : va_D A W1) (hS : va_S A H0 H locs) (hA : ∀ q : Nat, H0.size ≤ q → A q) {n : Int32} {N : Nat} (hn : ¬ n < 0) (hN : n.toNatClampNeg = N) (hbytes : N * componentBytes .int ≤ 536870912) (hcells : cells + 1 ≤ R.cells) (hslots : slots + N ≤ R.slots) (hdg : decode cc pc = .ok (.newarray .int, 2))
    (kk : ∀ (q : Nat) (H1 : Heap), va_P G.1 vwCl (W1 ++ [caI G q N (fun _ => (0 : Int32))]) H1 → va_D A (W1 ++ [caI G q N (fun _ => (0 : Int32))]) → va_S A H0 H1 locs → W p l e R s m args below meth c H1 locs (cells + 1) (slots + N) Q (F0 m (pc + 2) ls (.ref q :: rest))) : W p l e R s m args below meth c H locs cells slots Q (F0 m pc ls (.int n :: rest)) := by
  refine va_newa (atype := .int) (ty := .int) (a0 := (N, .inl (fun _ => (0 : Int32)))) hx hb harr rfl hK.1 hP hD hS hA (fun _ => rfl) hn hN hbytes hcells hslots hdg (fun q cA H1 hK2 hP2 hD2 hS2 => ?_)
  have e1 := va_nm_int (hK2.2 3 (cA, .int) rfl).2
  have e2 := va_nm_int (hK.1.2 0 (G.2.1, .int) rfl).2
  rw [e1] at e2
  obtain rfl := Option.some.inj e2
  exact kk q H1 hP2 hD2 hS2
theorem hc_newJ {G : hcG} {cc : ByteArray} {W1 : va_W} (hx : p.tables.exec = Jvm.exec) (hb : c.code = cc) (harr : (Cond.arrayClass .long).before args s = true) (hK : hcK G s) (hP : va_P G.1 vwCl W1 H) (hD : va_D A W1) (hS : va_S A H0 H locs) (hA : ∀ q : Nat, H0.size ≤ q → A q) {n : Int32} {N : Nat} (hn : ¬ n < 0) (hN : n.toNatClampNeg = N) (hbytes : N * componentBytes .long ≤ 536870912) (hcells : cells + 1 ≤ R.cells) (hslots : slots + N ≤ R.slots) (hdg : decode cc pc = .ok (.newarray .long, 2))
    (kk : ∀ (q : Nat) (H1 : Heap), va_P G.1 vwCl (W1 ++ [caJ G q N (fun _ => (0 : Int64))]) H1 → va_D A (W1 ++ [caJ G q N (fun _ => (0 : Int64))]) → va_S A H0 H1 locs → W p l e R s m args below meth c H1 locs (cells + 1) (slots + N) Q (F0 m (pc + 2) ls (.ref q :: rest))) : W p l e R s m args below meth c H locs cells slots Q (F0 m pc ls (.int n :: rest)) := by
  refine va_newa (atype := .long) (ty := .long) (a0 := (N, .inr (.inl (fun _ => (0 : Int64))))) hx hb harr rfl hK.1 hP hD hS hA (fun _ => rfl) hn hN hbytes hcells hslots hdg (fun q cA H1 hK2 hP2 hD2 hS2 => ?_)
  have e1 := va_nm_long (hK2.2 3 (cA, .long) rfl).2
  have e2 := va_nm_long (hK.1.2 1 (G.2.2.1, .long) rfl).2
  rw [e1] at e2
  obtain rfl := Option.some.inj e2
  exact kk q H1 hP2 hD2 hS2
theorem hc_newZ {G : hcG} {cc : ByteArray} {W1 : va_W} (hx : p.tables.exec = Jvm.exec) (hb : c.code = cc) (harr : (Cond.arrayClass .boolean).before args s = true) (hK : hcK G s) (hP : va_P G.1 vwCl W1 H) (hD : va_D A W1) (hS : va_S A H0 H locs) (hA : ∀ q : Nat, H0.size ≤ q → A q) {n : Int32} {N : Nat} (hn : ¬ n < 0) (hN : n.toNatClampNeg = N) (hbytes : N * componentBytes .boolean ≤ 536870912) (hcells : cells + 1 ≤ R.cells) (hslots : slots + N ≤ R.slots) (hdg : decode cc pc = .ok (.newarray .boolean, 2))
    (kk : ∀ (q : Nat) (H1 : Heap), va_P G.1 vwCl (W1 ++ [caZ G q N (fun _ => (0 : Int32))]) H1 → va_D A (W1 ++ [caZ G q N (fun _ => (0 : Int32))]) → va_S A H0 H1 locs → W p l e R s m args below meth c H1 locs (cells + 1) (slots + N) Q (F0 m (pc + 2) ls (.ref q :: rest))) : W p l e R s m args below meth c H locs cells slots Q (F0 m pc ls (.int n :: rest)) := by
  refine va_newa (atype := .boolean) (ty := .boolean) (a0 := (N, .inl (fun _ => (0 : Int32)))) hx hb harr rfl hK.1 hP hD hS hA (fun _ => rfl) hn hN hbytes hcells hslots hdg (fun q cA H1 hK2 hP2 hD2 hS2 => ?_)
  have e1 := va_nm_boolean (hK2.2 3 (cA, .boolean) rfl).2
  have e2 := va_nm_boolean (hK.1.2 2 (G.2.2.2, .boolean) rfl).2
  rw [e1] at e2
  obtain rfl := Option.some.inj e2
  exact kk q H1 hP2 hD2 hS2
end HN
theorem hc_max0 {N : Nat} (h : N ≤ 1000) : ¬ (if nI 0 < nI N then nI N else nI 0) < 0 := by
  split
  · exact nI_pos (by omega)
  · exact nI_pos (by decide)
theorem hc_maxN {N : Nat} (h : N ≤ 1000) : (if nI 0 < nI N then nI N else nI 0).toNatClampNeg = N := by
  rcases Nat.eq_zero_or_pos N with q | q
  · subst q; rw [if_neg (nI_nlt (Nat.le_refl 0) (by decide)), nI_clamp (by decide)]
  · rw [if_pos (nI_lt q (by omega)), nI_clamp (by omega)]
set_option maxHeartbeats 4000000 in
set_option maxRecDepth 100000 in
theorem c_X3_init (l : Launch) (G : hcG) (h0 sz : Nat) : Met l yX3_init wsX3_init ({ frames := 1, cells := 0, slots := 0, locals := 12 }) (hcPc G [.ref h0] [(h0, .inr (2, [.int 0, .int 0, .int 0, .long 0, .long 0, .long 0, .long 0, .long 0]))] sz) (va_Qv (fun _ : Unit => True) (hcB G (va_A [(h0, .inr (2, [.int 0, .int 0, .int 0, .long 0, .long 0, .long 0, .long 0, .long 0]))] sz) (fun u : Unit => [(h0, .inr (2, [.int (nI 0), .int (nI 0), .int (nI 3), .long (lN 0), .long (lN 0), .long (lN 0), .long (lN 0), .long (lN 0)]))])) (va_A [(h0, .inr (2, [.int 0, .int 0, .int 0, .long 0, .long 0, .long 0, .long 0, .long 0]))] sz)) 0 (0) (va_A [(h0, .inr (2, [.int 0, .int 0, .int 0, .long 0, .long 0, .long 0, .long 0, .long 0]))] sz) := by
  refine Met.ofW (cc := cX3_init) (maxL := 1) (ret := none) (by decide) rfl ?_
  intro p e s m args below meth c s₁ B hml hv
  obtain ⟨rfl, hsz, hP, hK, hD0⟩ := hv
  have hx := B.exec
  have hb := B.bytes
  have hr := B.returns
  have hts := atoms_spec (ws := wsX3_init) B.pre
  have hown : s.vm.findClass RX3 = some m.cls := findClass_of_methodNamed B.named
  have hlocks := B.notSynchronized
  have hin : meth.name = "<init>" := (name_of_methodNamed B.named B.method).1
  subst hsz
  have hD := hD0.self (sz := s.heap.size)
  generalize hAe : va_A [(h0, .inr (2, [.int 0, .int 0, .int 0, .long 0, .long 0, .long 0, .long 0, .long 0]))] s.heap.size = A at hD ⊢
  have hA : ∀ q : Nat, s.heap.size ≤ q → A q := fun q h => by rw [← hAe]; exact Or.inr h
  have hS : va_S A s.heap s.heap [] := va_S.rf
  have hP : va_P G.1 vwCl [(h0, .inr (2, [.int 0, .int 0, .int 0, .long 0, .long 0, .long 0, .long 0, .long 0]))] s.heap := hP
  have hl := lv_entry ([.ref h0]) (n := 1) (Nat.le_of_ble_eq_true rfl)
  rw [lg_entry_eq]
  generalize (lg_sl ([.ref h0]) ++ List.replicate (1 - (lg_sl ([.ref h0])).length) Slot.unset).toArray = ls at hl ⊢
  have hl : lv_has ls 1 [(0, .ref h0)] := hl
  have kf0 := hts (.methodLink RX3 3 objectInit) (List.mem_of_getElem? (i := 1) (by decide +kernel))
  have kf1 := hts (.instanceMethod objectInit) (List.mem_of_getElem? (i := 2) (by decide +kernel))
  have kf2 := hts (.code objectInit ⟨#[0xb1]⟩ 1 none) (List.mem_of_getElem? (i := 3) (by decide +kernel))
  have kf3 := hts (.fieldLink RX3 9 "HallOfClaims$Hall" "size" "I") (List.mem_of_getElem? (i := 4) (by decide +kernel))
  have kf4 := hts (.fieldLink RX3 15 "HallOfClaims$Hall" "heard" "I") (List.mem_of_getElem? (i := 5) (by decide +kernel))
  have kf5 := hts (.fieldLink RX3 18 "HallOfClaims$Hall" "mode" "I") (List.mem_of_getElem? (i := 6) (by decide +kernel))
  have kf6 := hts (.fieldLink RX3 21 "HallOfClaims$Hall" "cast" "J") (List.mem_of_getElem? (i := 7) (by decide +kernel))
  have kf7 := hts (.fieldLink RX3 25 "HallOfClaims$Hall" "figures" "J") (List.mem_of_getElem? (i := 8) (by decide +kernel))
  have kf8 := hts (.fieldLink RX3 28 "HallOfClaims$Hall" "voices" "J") (List.mem_of_getElem? (i := 9) (by decide +kernel))
  have kf9 := hts (.fieldLink RX3 31 "HallOfClaims$Hall" "attacks" "J") (List.mem_of_getElem? (i := 10) (by decide +kernel))
  have kf10 := hts (.fieldLink RX3 34 "HallOfClaims$Hall" "supports" "J") (List.mem_of_getElem? (i := 11) (by decide +kernel))
  have ki_X3 : ∀ w ∈ u_ws RX3 TX3 8, w ∈ wsX3_init := by decide +kernel
  refine lv_aload_n hx hb dX3_init_0 rfl (lv_at hl 0 rfl) ?_
  refine W.objInit hx hb hown kf0 kf1 kf2 rfl (by rw [hml]; exact hl.1) rfl dX3_init_1 (Nat.le_of_ble_eq_true rfl) (Nat.le_of_ble_eq_true rfl) ?_
  refine W.eq (g2 := F0 m 4 ls []) rfl ?_
  refine lv_aload_n hx hb dX3_init_4 rfl (lv_at hl 0 rfl) ?_
  refine lv_iconst (v := nI 0) hx hb dX3_init_5 (by decide +kernel) ?_
  refine va_put (D := G.1) (ci := 2) (v := .int (nI 0)) (ty := .int) (C := RX3) (T := TX3) (N := 8) hx hb hts ki_X3 tyX3 tyX3_ok nmX3 hown hK.1 hP hD hS 0 rfl rfl 0 (by decide) kf3 (fun _ h9 => h9) rfl (by decide +kernel) rfl rfl (Nat.le_of_ble_eq_true rfl) dX3_init_6 (fun H locs hP hD hS => ?_)
  have hP : va_P G.1 vwCl [(h0, .inr (2, [.int (nI 0), .int 0, .int 0, .long 0, .long 0, .long 0, .long 0, .long 0]))] H := hP
  have hD : va_D A [(h0, .inr (2, [.int (nI 0), .int 0, .int 0, .long 0, .long 0, .long 0, .long 0, .long 0]))] := hD
  refine lv_aload_n hx hb dX3_init_9 rfl (lv_at hl 0 rfl) ?_
  refine lv_iconst (v := nI 0) hx hb dX3_init_10 (by decide +kernel) ?_
  refine va_put (D := G.1) (ci := 2) (v := .int (nI 0)) (ty := .int) (C := RX3) (T := TX3) (N := 8) hx hb hts ki_X3 tyX3 tyX3_ok nmX3 hown hK.1 hP hD hS 0 rfl rfl 1 (by decide) kf4 (fun _ h9 => h9) rfl (by decide +kernel) rfl rfl (Nat.le_of_ble_eq_true rfl) dX3_init_11 (fun H locs hP hD hS => ?_)
  have hP : va_P G.1 vwCl [(h0, .inr (2, [.int (nI 0), .int (nI 0), .int 0, .long 0, .long 0, .long 0, .long 0, .long 0]))] H := hP
  have hD : va_D A [(h0, .inr (2, [.int (nI 0), .int (nI 0), .int 0, .long 0, .long 0, .long 0, .long 0, .long 0]))] := hD
  refine lv_aload_n hx hb dX3_init_14 rfl (lv_at hl 0 rfl) ?_
  refine lv_iconst (v := nI 3) hx hb dX3_init_15 (by decide +kernel) ?_
  refine va_put (D := G.1) (ci := 2) (v := .int (nI 3)) (ty := .int) (C := RX3) (T := TX3) (N := 8) hx hb hts ki_X3 tyX3 tyX3_ok nmX3 hown hK.1 hP hD hS 0 rfl rfl 2 (by decide) kf5 (fun _ h9 => h9) rfl (by decide +kernel) rfl rfl (Nat.le_of_ble_eq_true rfl) dX3_init_16 (fun H locs hP hD hS => ?_)
  have hP : va_P G.1 vwCl [(h0, .inr (2, [.int (nI 0), .int (nI 0), .int (nI 3), .long 0, .long 0, .long 0, .long 0, .long 0]))] H := hP
  have hD : va_D A [(h0, .inr (2, [.int (nI 0), .int (nI 0), .int (nI 3), .long 0, .long 0, .long 0, .long 0, .long 0]))] := hD
  refine lv_aload_n hx hb dX3_init_19 rfl (lv_at hl 0 rfl) ?_
  refine lv_lconst (v := lN 0) hx hb dX3_init_20 (by decide +kernel) ?_
  refine va_put (D := G.1) (ci := 2) (v := .long (lN 0)) (ty := .long) (C := RX3) (T := TX3) (N := 8) hx hb hts ki_X3 tyX3 tyX3_ok nmX3 hown hK.1 hP hD hS 0 rfl rfl 3 (by decide) kf6 (fun _ h9 => h9) rfl (by decide +kernel) rfl rfl (Nat.le_of_ble_eq_true rfl) dX3_init_21 (fun H locs hP hD hS => ?_)
  have hP : va_P G.1 vwCl [(h0, .inr (2, [.int (nI 0), .int (nI 0), .int (nI 3), .long (lN 0), .long 0, .long 0, .long 0, .long 0]))] H := hP
  have hD : va_D A [(h0, .inr (2, [.int (nI 0), .int (nI 0), .int (nI 3), .long (lN 0), .long 0, .long 0, .long 0, .long 0]))] := hD
  refine lv_aload_n hx hb dX3_init_24 rfl (lv_at hl 0 rfl) ?_
  refine lv_lconst (v := lN 0) hx hb dX3_init_25 (by decide +kernel) ?_
  refine va_put (D := G.1) (ci := 2) (v := .long (lN 0)) (ty := .long) (C := RX3) (T := TX3) (N := 8) hx hb hts ki_X3 tyX3 tyX3_ok nmX3 hown hK.1 hP hD hS 0 rfl rfl 4 (by decide) kf7 (fun _ h9 => h9) rfl (by decide +kernel) rfl rfl (Nat.le_of_ble_eq_true rfl) dX3_init_26 (fun H locs hP hD hS => ?_)
  have hP : va_P G.1 vwCl [(h0, .inr (2, [.int (nI 0), .int (nI 0), .int (nI 3), .long (lN 0), .long (lN 0), .long 0, .long 0, .long 0]))] H := hP
  have hD : va_D A [(h0, .inr (2, [.int (nI 0), .int (nI 0), .int (nI 3), .long (lN 0), .long (lN 0), .long 0, .long 0, .long 0]))] := hD
  refine lv_aload_n hx hb dX3_init_29 rfl (lv_at hl 0 rfl) ?_
  refine lv_lconst (v := lN 0) hx hb dX3_init_30 (by decide +kernel) ?_
  refine va_put (D := G.1) (ci := 2) (v := .long (lN 0)) (ty := .long) (C := RX3) (T := TX3) (N := 8) hx hb hts ki_X3 tyX3 tyX3_ok nmX3 hown hK.1 hP hD hS 0 rfl rfl 5 (by decide) kf8 (fun _ h9 => h9) rfl (by decide +kernel) rfl rfl (Nat.le_of_ble_eq_true rfl) dX3_init_31 (fun H locs hP hD hS => ?_)
  have hP : va_P G.1 vwCl [(h0, .inr (2, [.int (nI 0), .int (nI 0), .int (nI 3), .long (lN 0), .long (lN 0), .long (lN 0), .long 0, .long 0]))] H := hP
  have hD : va_D A [(h0, .inr (2, [.int (nI 0), .int (nI 0), .int (nI 3), .long (lN 0), .long (lN 0), .long (lN 0), .long 0, .long 0]))] := hD
  refine lv_aload_n hx hb dX3_init_34 rfl (lv_at hl 0 rfl) ?_
  refine lv_lconst (v := lN 0) hx hb dX3_init_35 (by decide +kernel) ?_
  refine va_put (D := G.1) (ci := 2) (v := .long (lN 0)) (ty := .long) (C := RX3) (T := TX3) (N := 8) hx hb hts ki_X3 tyX3 tyX3_ok nmX3 hown hK.1 hP hD hS 0 rfl rfl 6 (by decide) kf9 (fun _ h9 => h9) rfl (by decide +kernel) rfl rfl (Nat.le_of_ble_eq_true rfl) dX3_init_36 (fun H locs hP hD hS => ?_)
  have hP : va_P G.1 vwCl [(h0, .inr (2, [.int (nI 0), .int (nI 0), .int (nI 3), .long (lN 0), .long (lN 0), .long (lN 0), .long (lN 0), .long 0]))] H := hP
  have hD : va_D A [(h0, .inr (2, [.int (nI 0), .int (nI 0), .int (nI 3), .long (lN 0), .long (lN 0), .long (lN 0), .long (lN 0), .long 0]))] := hD
  refine lv_aload_n hx hb dX3_init_39 rfl (lv_at hl 0 rfl) ?_
  refine lv_lconst (v := lN 0) hx hb dX3_init_40 (by decide +kernel) ?_
  refine va_put (D := G.1) (ci := 2) (v := .long (lN 0)) (ty := .long) (C := RX3) (T := TX3) (N := 8) hx hb hts ki_X3 tyX3 tyX3_ok nmX3 hown hK.1 hP hD hS 0 rfl rfl 7 (by decide) kf10 (fun _ h9 => h9) rfl (by decide +kernel) rfl rfl (Nat.le_of_ble_eq_true rfl) dX3_init_41 (fun H locs hP hD hS => ?_)
  have hP : va_P G.1 vwCl [(h0, .inr (2, [.int (nI 0), .int (nI 0), .int (nI 3), .long (lN 0), .long (lN 0), .long (lN 0), .long (lN 0), .long (lN 0)]))] H := hP
  have hD : va_D A [(h0, .inr (2, [.int (nI 0), .int (nI 0), .int (nI 3), .long (lN 0), .long (lN 0), .long (lN 0), .long (lN 0), .long (lN 0)]))] := hD
  exact W.vret hx hb hr (fun t ht hW => ⟨⟨(), rfl, trivial, ⟨by rw [ht]; exact hP, hD⟩⟩, hS.F ht⟩) hS.2.2 dX3_init_44
set_option maxHeartbeats 4000000 in
set_option maxRecDepth 100000 in
theorem c_X6_init (l : Launch) (G : hcG) (h0 sz : Nat) (N : Nat) (hN : N ≤ 1000) : Met l yX6_init wsX6_init ({ frames := 1, cells := 1, slots := 0 + N, locals := 21 }) (hcPc G [.ref h0, .int (nI N)] [(h0, .inr (4, [.null, .int 0]))] sz) (va_Qv (fun _ : Nat => True) (hcB G (va_A [(h0, .inr (4, [.null, .int 0]))] sz) (fun u : Nat => [(h0, .inr (4, [.ref u, .int (nI 0)])), caI G u N (fun _ => (0 : Int32))])) (va_A [(h0, .inr (4, [.null, .int 0]))] sz)) 1 (0 + N) (va_A [(h0, .inr (4, [.null, .int 0]))] sz) := by
  refine Met.ofW (cc := cX6_init) (maxL := 2) (ret := none) (by decide) rfl ?_
  intro p e s m args below meth c s₁ B hml hv
  obtain ⟨rfl, hsz, hP, hK, hD0⟩ := hv
  have hx := B.exec
  have hb := B.bytes
  have hr := B.returns
  have hts := atoms_spec (ws := wsX6_init) B.pre
  have hown : s.vm.findClass RX6 = some m.cls := findClass_of_methodNamed B.named
  have hlocks := B.notSynchronized
  have hin : meth.name = "<init>" := (name_of_methodNamed B.named B.method).1
  subst hsz
  have hD := hD0.self (sz := s.heap.size)
  generalize hAe : va_A [(h0, .inr (4, [.null, .int 0]))] s.heap.size = A at hD ⊢
  have hA : ∀ q : Nat, s.heap.size ≤ q → A q := fun q h => by rw [← hAe]; exact Or.inr h
  have hS : va_S A s.heap s.heap [] := va_S.rf
  have hP : va_P G.1 vwCl [(h0, .inr (4, [.null, .int 0]))] s.heap := hP
  have hl := lv_entry ([.ref h0, .int (nI N)]) (n := 2) (Nat.le_of_ble_eq_true rfl)
  rw [lg_entry_eq]
  generalize (lg_sl ([.ref h0, .int (nI N)]) ++ List.replicate (2 - (lg_sl ([.ref h0, .int (nI N)])).length) Slot.unset).toArray = ls at hl ⊢
  have hl : lv_has ls 2 [(0, .ref h0), (1, .int (nI N))] := hl
  have kf0 := hts (.methodLink RX6 1 objectInit) (List.mem_of_getElem? (i := 1) (by decide +kernel))
  have kf1 := hts (.instanceMethod objectInit) (List.mem_of_getElem? (i := 2) (by decide +kernel))
  have kf2 := hts (.code objectInit ⟨#[0xb1]⟩ 1 none) (List.mem_of_getElem? (i := 3) (by decide +kernel))
  have kf3 := hts (.fieldLink RX6 7 "HallOfClaims$Row" "length" "I") (List.mem_of_getElem? (i := 4) (by decide +kernel))
  have kf4 := hts (.methodLink RX6 13 Lib.Math.max.name) (List.mem_of_getElem? (i := 5) (by decide +kernel))
  have kf5 := hts (.static Lib.Math.max.name) (List.mem_of_getElem? (i := 6) (by decide +kernel))
  have kf6 := hts (.initialized "java/lang/Math") (List.mem_of_getElem? (i := 7) (by decide +kernel))
  have kf7 := hts (.code Lib.Math.max.name Lib.Math.max.code 2 (some .int)) (List.mem_of_getElem? (i := 8) (by decide +kernel))
  have kf8 := hts (.arrayClass .int) (List.mem_of_getElem? (i := 9) (by decide +kernel))
  have kf9 := hts (.fieldLink RX6 19 "HallOfClaims$Row" "numbers" "[I") (List.mem_of_getElem? (i := 10) (by decide +kernel))
  have ki_X6 : ∀ w ∈ u_ws RX6 TX6 2, w ∈ wsX6_init := by decide +kernel
  refine lv_aload_n hx hb dX6_init_0 rfl (lv_at hl 0 rfl) ?_
  refine W.objInit hx hb hown kf0 kf1 kf2 rfl (by rw [hml]; exact hl.1) rfl dX6_init_1 (Nat.le_of_ble_eq_true rfl) (Nat.le_of_ble_eq_true rfl) ?_
  refine W.eq (g2 := F0 m 4 ls []) rfl ?_
  refine lv_aload_n hx hb dX6_init_4 rfl (lv_at hl 0 rfl) ?_
  refine lv_iconst (v := nI 0) hx hb dX6_init_5 (by decide +kernel) ?_
  refine va_put (D := G.1) (ci := 4) (v := .int (nI 0)) (ty := .int) (C := RX6) (T := TX6) (N := 2) hx hb hts ki_X6 tyX6 tyX6_ok nmX6 hown hK.1 hP hD hS 0 rfl rfl 1 (by decide) kf3 (fun _ h9 => h9) rfl (by decide +kernel) rfl rfl (Nat.le_of_ble_eq_true rfl) dX6_init_6 (fun H locs hP hD hS => ?_)
  have hP : va_P G.1 vwCl [(h0, .inr (4, [.null, .int (nI 0)]))] H := hP
  have hD : va_D A [(h0, .inr (4, [.null, .int (nI 0)]))] := hD
  refine lv_aload_n hx hb dX6_init_9 rfl (lv_at hl 0 rfl) ?_
  refine lv_iconst (v := nI 0) hx hb dX6_init_10 (by decide +kernel) ?_
  refine lv_iload_n hx hb dX6_init_11 rfl (lv_at hl 1 rfl) ?_
  refine va_mmax hx hb (hml.trans hl.1.symm) hown kf4 kf5 kf6 kf7 (Nat.le_of_ble_eq_true rfl) (Nat.le_of_ble_eq_true rfl) (Nat.le_of_ble_eq_true rfl) (Nat.le_of_ble_eq_true rfl) dX6_init_12 ?_
  have hn0 : ¬ (if nI 0 < nI N then nI N else nI 0) < 0 := hc_max0 hN
  have hnN : (if nI 0 < nI N then nI N else nI 0).toNatClampNeg = N := hc_maxN hN
  refine hc_newI (N := N) hx hb kf8 hK hP hD hS hA hn0 hnN (show N * 4 ≤ 536870912 by omega) (Nat.le_of_ble_eq_true rfl) (Nat.le_refl _) dX6_init_15 (fun q15 H hP hD hS => ?_)
  have hP : va_P G.1 vwCl [(h0, .inr (4, [.null, .int (nI 0)])), caI G q15 N (fun _ => (0 : Int32))] H := hP
  have hD : va_D A [(h0, .inr (4, [.null, .int (nI 0)])), caI G q15 N (fun _ => (0 : Int32))] := hD
  refine W.widen (k := 1) (n := 0 + N) (by omega) (by omega) ?_
  refine va_putF (D := G.1) (ci := 4) (v := .ref q15) (ty := .array .int) (C := RX6) (T := TX6) (N := 2) hx hb hts ki_X6 tyX6 tyX6_ok nmX6 hown hK.1 hP hD hS 0 rfl rfl 0 (by decide) kf9 (fun _ h9 => h9) rfl hin rfl (by decide +kernel) rfl rfl (Nat.le_of_ble_eq_true rfl) dX6_init_17 (fun H locs hP hD hS => ?_)
  have hP : va_P G.1 vwCl [(h0, .inr (4, [.ref q15, .int (nI 0)])), caI G q15 N (fun _ => (0 : Int32))] H := hP
  have hD : va_D A [(h0, .inr (4, [.ref q15, .int (nI 0)])), caI G q15 N (fun _ => (0 : Int32))] := hD
  exact W.vret hx hb hr (fun t ht hW => ⟨⟨q15, rfl, trivial, ⟨by rw [ht]; exact hP, hD⟩⟩, hS.F ht⟩) hS.2.2 dX6_init_20
set_option maxHeartbeats 4000000 in
set_option maxRecDepth 100000 in
theorem c_X1_init (l : Launch) (G : hcG) (h0 sz : Nat) : Met l yX1_init wsX1_init ({ frames := 1, cells := 0, slots := 0, locals := 12 }) (hcPc G [.ref h0] [(h0, .inr (0, [.long 0, .long 0, .long 0, .long 0]))] sz) (va_Qv (fun _ : Unit => True) (hcB G (va_A [(h0, .inr (0, [.long 0, .long 0, .long 0, .long 0]))] sz) (fun u : Unit => [(h0, .inr (0, [.long (lN 0), .long (lN 0), .long (lN 0), .long (lN 0)]))])) (va_A [(h0, .inr (0, [.long 0, .long 0, .long 0, .long 0]))] sz)) 0 (0) (va_A [(h0, .inr (0, [.long 0, .long 0, .long 0, .long 0]))] sz) := by
  refine Met.ofW (cc := cX1_init) (maxL := 1) (ret := none) (by decide) rfl ?_
  intro p e s m args below meth c s₁ B hml hv
  obtain ⟨rfl, hsz, hP, hK, hD0⟩ := hv
  have hx := B.exec
  have hb := B.bytes
  have hr := B.returns
  have hts := atoms_spec (ws := wsX1_init) B.pre
  have hown : s.vm.findClass RX1 = some m.cls := findClass_of_methodNamed B.named
  have hlocks := B.notSynchronized
  have hin : meth.name = "<init>" := (name_of_methodNamed B.named B.method).1
  subst hsz
  have hD := hD0.self (sz := s.heap.size)
  generalize hAe : va_A [(h0, .inr (0, [.long 0, .long 0, .long 0, .long 0]))] s.heap.size = A at hD ⊢
  have hA : ∀ q : Nat, s.heap.size ≤ q → A q := fun q h => by rw [← hAe]; exact Or.inr h
  have hS : va_S A s.heap s.heap [] := va_S.rf
  have hP : va_P G.1 vwCl [(h0, .inr (0, [.long 0, .long 0, .long 0, .long 0]))] s.heap := hP
  have hl := lv_entry ([.ref h0]) (n := 1) (Nat.le_of_ble_eq_true rfl)
  rw [lg_entry_eq]
  generalize (lg_sl ([.ref h0]) ++ List.replicate (1 - (lg_sl ([.ref h0])).length) Slot.unset).toArray = ls at hl ⊢
  have hl : lv_has ls 1 [(0, .ref h0)] := hl
  have kf0 := hts (.methodLink RX1 3 objectInit) (List.mem_of_getElem? (i := 1) (by decide +kernel))
  have kf1 := hts (.instanceMethod objectInit) (List.mem_of_getElem? (i := 2) (by decide +kernel))
  have kf2 := hts (.code objectInit ⟨#[0xb1]⟩ 1 none) (List.mem_of_getElem? (i := 3) (by decide +kernel))
  have kf3 := hts (.fieldLink RX1 9 "HallOfClaims$Defeats" "hits" "J") (List.mem_of_getElem? (i := 4) (by decide +kernel))
  have kf4 := hts (.fieldLink RX1 15 "HallOfClaims$Defeats" "leads" "J") (List.mem_of_getElem? (i := 5) (by decide +kernel))
  have kf5 := hts (.fieldLink RX1 18 "HallOfClaims$Defeats" "defeats" "J") (List.mem_of_getElem? (i := 6) (by decide +kernel))
  have kf6 := hts (.fieldLink RX1 21 "HallOfClaims$Defeats" "defeaters" "J") (List.mem_of_getElem? (i := 7) (by decide +kernel))
  have ki_X1 : ∀ w ∈ u_ws RX1 TX1 4, w ∈ wsX1_init := by decide +kernel
  refine lv_aload_n hx hb dX1_init_0 rfl (lv_at hl 0 rfl) ?_
  refine W.objInit hx hb hown kf0 kf1 kf2 rfl (by rw [hml]; exact hl.1) rfl dX1_init_1 (Nat.le_of_ble_eq_true rfl) (Nat.le_of_ble_eq_true rfl) ?_
  refine W.eq (g2 := F0 m 4 ls []) rfl ?_
  refine lv_aload_n hx hb dX1_init_4 rfl (lv_at hl 0 rfl) ?_
  refine lv_lconst (v := lN 0) hx hb dX1_init_5 (by decide +kernel) ?_
  refine va_put (D := G.1) (ci := 0) (v := .long (lN 0)) (ty := .long) (C := RX1) (T := TX1) (N := 4) hx hb hts ki_X1 tyX1 tyX1_ok nmX1 hown hK.1 hP hD hS 0 rfl rfl 0 (by decide) kf3 (fun _ h9 => h9) rfl (by decide +kernel) rfl rfl (Nat.le_of_ble_eq_true rfl) dX1_init_6 (fun H locs hP hD hS => ?_)
  have hP : va_P G.1 vwCl [(h0, .inr (0, [.long (lN 0), .long 0, .long 0, .long 0]))] H := hP
  have hD : va_D A [(h0, .inr (0, [.long (lN 0), .long 0, .long 0, .long 0]))] := hD
  refine lv_aload_n hx hb dX1_init_9 rfl (lv_at hl 0 rfl) ?_
  refine lv_lconst (v := lN 0) hx hb dX1_init_10 (by decide +kernel) ?_
  refine va_put (D := G.1) (ci := 0) (v := .long (lN 0)) (ty := .long) (C := RX1) (T := TX1) (N := 4) hx hb hts ki_X1 tyX1 tyX1_ok nmX1 hown hK.1 hP hD hS 0 rfl rfl 1 (by decide) kf4 (fun _ h9 => h9) rfl (by decide +kernel) rfl rfl (Nat.le_of_ble_eq_true rfl) dX1_init_11 (fun H locs hP hD hS => ?_)
  have hP : va_P G.1 vwCl [(h0, .inr (0, [.long (lN 0), .long (lN 0), .long 0, .long 0]))] H := hP
  have hD : va_D A [(h0, .inr (0, [.long (lN 0), .long (lN 0), .long 0, .long 0]))] := hD
  refine lv_aload_n hx hb dX1_init_14 rfl (lv_at hl 0 rfl) ?_
  refine lv_lconst (v := lN 0) hx hb dX1_init_15 (by decide +kernel) ?_
  refine va_put (D := G.1) (ci := 0) (v := .long (lN 0)) (ty := .long) (C := RX1) (T := TX1) (N := 4) hx hb hts ki_X1 tyX1 tyX1_ok nmX1 hown hK.1 hP hD hS 0 rfl rfl 2 (by decide) kf5 (fun _ h9 => h9) rfl (by decide +kernel) rfl rfl (Nat.le_of_ble_eq_true rfl) dX1_init_16 (fun H locs hP hD hS => ?_)
  have hP : va_P G.1 vwCl [(h0, .inr (0, [.long (lN 0), .long (lN 0), .long (lN 0), .long 0]))] H := hP
  have hD : va_D A [(h0, .inr (0, [.long (lN 0), .long (lN 0), .long (lN 0), .long 0]))] := hD
  refine lv_aload_n hx hb dX1_init_19 rfl (lv_at hl 0 rfl) ?_
  refine lv_lconst (v := lN 0) hx hb dX1_init_20 (by decide +kernel) ?_
  refine va_put (D := G.1) (ci := 0) (v := .long (lN 0)) (ty := .long) (C := RX1) (T := TX1) (N := 4) hx hb hts ki_X1 tyX1 tyX1_ok nmX1 hown hK.1 hP hD hS 0 rfl rfl 3 (by decide) kf6 (fun _ h9 => h9) rfl (by decide +kernel) rfl rfl (Nat.le_of_ble_eq_true rfl) dX1_init_21 (fun H locs hP hD hS => ?_)
  have hP : va_P G.1 vwCl [(h0, .inr (0, [.long (lN 0), .long (lN 0), .long (lN 0), .long (lN 0)]))] H := hP
  have hD : va_D A [(h0, .inr (0, [.long (lN 0), .long (lN 0), .long (lN 0), .long (lN 0)]))] := hD
  exact W.vret hx hb hr (fun t ht hW => ⟨⟨(), rfl, trivial, ⟨by rw [ht]; exact hP, hD⟩⟩, hS.F ht⟩) hS.2.2 dX1_init_24
set_option maxHeartbeats 4000000 in
set_option maxRecDepth 100000 in
theorem c_X9_init (l : Launch) (G : hcG) (h0 sz : Nat) : Met l yX9_init wsX9_init ({ frames := 1, cells := 0, slots := 0, locals := 12 }) (hcPc G [.ref h0] [(h0, .inr (7, [.int 0, .int 0, .int 0, .long 0]))] sz) (va_Qv (fun _ : Unit => True) (hcB G (va_A [(h0, .inr (7, [.int 0, .int 0, .int 0, .long 0]))] sz) (fun u : Unit => [(h0, .inr (7, [.int (nI 0), .int (nI 0), .int (nI 0), .long (lN 0)]))])) (va_A [(h0, .inr (7, [.int 0, .int 0, .int 0, .long 0]))] sz)) 0 (0) (va_A [(h0, .inr (7, [.int 0, .int 0, .int 0, .long 0]))] sz) := by
  refine Met.ofW (cc := cX9_init) (maxL := 1) (ret := none) (by decide) rfl ?_
  intro p e s m args below meth c s₁ B hml hv
  obtain ⟨rfl, hsz, hP, hK, hD0⟩ := hv
  have hx := B.exec
  have hb := B.bytes
  have hr := B.returns
  have hts := atoms_spec (ws := wsX9_init) B.pre
  have hown : s.vm.findClass RX9 = some m.cls := findClass_of_methodNamed B.named
  have hlocks := B.notSynchronized
  have hin : meth.name = "<init>" := (name_of_methodNamed B.named B.method).1
  subst hsz
  have hD := hD0.self (sz := s.heap.size)
  generalize hAe : va_A [(h0, .inr (7, [.int 0, .int 0, .int 0, .long 0]))] s.heap.size = A at hD ⊢
  have hA : ∀ q : Nat, s.heap.size ≤ q → A q := fun q h => by rw [← hAe]; exact Or.inr h
  have hS : va_S A s.heap s.heap [] := va_S.rf
  have hP : va_P G.1 vwCl [(h0, .inr (7, [.int 0, .int 0, .int 0, .long 0]))] s.heap := hP
  have hl := lv_entry ([.ref h0]) (n := 1) (Nat.le_of_ble_eq_true rfl)
  rw [lg_entry_eq]
  generalize (lg_sl ([.ref h0]) ++ List.replicate (1 - (lg_sl ([.ref h0])).length) Slot.unset).toArray = ls at hl ⊢
  have hl : lv_has ls 1 [(0, .ref h0)] := hl
  have kf0 := hts (.methodLink RX9 3 objectInit) (List.mem_of_getElem? (i := 1) (by decide +kernel))
  have kf1 := hts (.instanceMethod objectInit) (List.mem_of_getElem? (i := 2) (by decide +kernel))
  have kf2 := hts (.code objectInit ⟨#[0xb1]⟩ 1 none) (List.mem_of_getElem? (i := 3) (by decide +kernel))
  have kf3 := hts (.fieldLink RX9 9 "HallOfClaims$Turns" "in" "I") (List.mem_of_getElem? (i := 4) (by decide +kernel))
  have kf4 := hts (.fieldLink RX9 15 "HallOfClaims$Turns" "out" "I") (List.mem_of_getElem? (i := 5) (by decide +kernel))
  have kf5 := hts (.fieldLink RX9 18 "HallOfClaims$Turns" "length" "I") (List.mem_of_getElem? (i := 6) (by decide +kernel))
  have kf6 := hts (.fieldLink RX9 21 "HallOfClaims$Turns" "order" "J") (List.mem_of_getElem? (i := 7) (by decide +kernel))
  have ki_X9 : ∀ w ∈ u_ws RX9 TX9 4, w ∈ wsX9_init := by decide +kernel
  refine lv_aload_n hx hb dX9_init_0 rfl (lv_at hl 0 rfl) ?_
  refine W.objInit hx hb hown kf0 kf1 kf2 rfl (by rw [hml]; exact hl.1) rfl dX9_init_1 (Nat.le_of_ble_eq_true rfl) (Nat.le_of_ble_eq_true rfl) ?_
  refine W.eq (g2 := F0 m 4 ls []) rfl ?_
  refine lv_aload_n hx hb dX9_init_4 rfl (lv_at hl 0 rfl) ?_
  refine lv_iconst (v := nI 0) hx hb dX9_init_5 (by decide +kernel) ?_
  refine va_put (D := G.1) (ci := 7) (v := .int (nI 0)) (ty := .int) (C := RX9) (T := TX9) (N := 4) hx hb hts ki_X9 tyX9 tyX9_ok nmX9 hown hK.1 hP hD hS 0 rfl rfl 0 (by decide) kf3 (fun _ h9 => h9) rfl (by decide +kernel) rfl rfl (Nat.le_of_ble_eq_true rfl) dX9_init_6 (fun H locs hP hD hS => ?_)
  have hP : va_P G.1 vwCl [(h0, .inr (7, [.int (nI 0), .int 0, .int 0, .long 0]))] H := hP
  have hD : va_D A [(h0, .inr (7, [.int (nI 0), .int 0, .int 0, .long 0]))] := hD
  refine lv_aload_n hx hb dX9_init_9 rfl (lv_at hl 0 rfl) ?_
  refine lv_iconst (v := nI 0) hx hb dX9_init_10 (by decide +kernel) ?_
  refine va_put (D := G.1) (ci := 7) (v := .int (nI 0)) (ty := .int) (C := RX9) (T := TX9) (N := 4) hx hb hts ki_X9 tyX9 tyX9_ok nmX9 hown hK.1 hP hD hS 0 rfl rfl 1 (by decide) kf4 (fun _ h9 => h9) rfl (by decide +kernel) rfl rfl (Nat.le_of_ble_eq_true rfl) dX9_init_11 (fun H locs hP hD hS => ?_)
  have hP : va_P G.1 vwCl [(h0, .inr (7, [.int (nI 0), .int (nI 0), .int 0, .long 0]))] H := hP
  have hD : va_D A [(h0, .inr (7, [.int (nI 0), .int (nI 0), .int 0, .long 0]))] := hD
  refine lv_aload_n hx hb dX9_init_14 rfl (lv_at hl 0 rfl) ?_
  refine lv_iconst (v := nI 0) hx hb dX9_init_15 (by decide +kernel) ?_
  refine va_put (D := G.1) (ci := 7) (v := .int (nI 0)) (ty := .int) (C := RX9) (T := TX9) (N := 4) hx hb hts ki_X9 tyX9 tyX9_ok nmX9 hown hK.1 hP hD hS 0 rfl rfl 2 (by decide) kf5 (fun _ h9 => h9) rfl (by decide +kernel) rfl rfl (Nat.le_of_ble_eq_true rfl) dX9_init_16 (fun H locs hP hD hS => ?_)
  have hP : va_P G.1 vwCl [(h0, .inr (7, [.int (nI 0), .int (nI 0), .int (nI 0), .long 0]))] H := hP
  have hD : va_D A [(h0, .inr (7, [.int (nI 0), .int (nI 0), .int (nI 0), .long 0]))] := hD
  refine lv_aload_n hx hb dX9_init_19 rfl (lv_at hl 0 rfl) ?_
  refine lv_lconst (v := lN 0) hx hb dX9_init_20 (by decide +kernel) ?_
  refine va_put (D := G.1) (ci := 7) (v := .long (lN 0)) (ty := .long) (C := RX9) (T := TX9) (N := 4) hx hb hts ki_X9 tyX9 tyX9_ok nmX9 hown hK.1 hP hD hS 0 rfl rfl 3 (by decide) kf6 (fun _ h9 => h9) rfl (by decide +kernel) rfl rfl (Nat.le_of_ble_eq_true rfl) dX9_init_21 (fun H locs hP hD hS => ?_)
  have hP : va_P G.1 vwCl [(h0, .inr (7, [.int (nI 0), .int (nI 0), .int (nI 0), .long (lN 0)]))] H := hP
  have hD : va_D A [(h0, .inr (7, [.int (nI 0), .int (nI 0), .int (nI 0), .long (lN 0)]))] := hD
  exact W.vret hx hb hr (fun t ht hW => ⟨⟨(), rfl, trivial, ⟨by rw [ht]; exact hP, hD⟩⟩, hS.F ht⟩) hS.2.2 dX9_init_24
set_option maxHeartbeats 4000000 in
set_option maxRecDepth 100000 in
theorem c_X7_init (l : Launch) (G : hcG) (h0 sz : Nat) : Met l yX7_init wsX7_init ({ frames := 1, cells := 3, slots := 768, locals := 12 }) (hcPc G [.ref h0] [(h0, .inr (5, [.null, .null, .null, .int 0, .long 0, .long 0]))] sz) (va_Qv (fun _ : Nat × Nat × Nat => True) (hcB G (va_A [(h0, .inr (5, [.null, .null, .null, .int 0, .long 0, .long 0]))] sz) (fun u : Nat × Nat × Nat => [(h0, .inr (5, [.ref u.1, .ref u.2.1, .ref u.2.2, .int (nI 0), .long (lN 0), .long (lN 0)])), caZ G u.1 256 (fun _ => (0 : Int32)), caZ G u.2.1 256 (fun _ => (0 : Int32)), caZ G u.2.2 256 (fun _ => (0 : Int32))])) (va_A [(h0, .inr (5, [.null, .null, .null, .int 0, .long 0, .long 0]))] sz)) 3 (768) (va_A [(h0, .inr (5, [.null, .null, .null, .int 0, .long 0, .long 0]))] sz) := by
  refine Met.ofW (cc := cX7_init) (maxL := 1) (ret := none) (by decide) rfl ?_
  intro p e s m args below meth c s₁ B hml hv
  obtain ⟨rfl, hsz, hP, hK, hD0⟩ := hv
  have hx := B.exec
  have hb := B.bytes
  have hr := B.returns
  have hts := atoms_spec (ws := wsX7_init) B.pre
  have hown : s.vm.findClass RX7 = some m.cls := findClass_of_methodNamed B.named
  have hlocks := B.notSynchronized
  have hin : meth.name = "<init>" := (name_of_methodNamed B.named B.method).1
  subst hsz
  have hD := hD0.self (sz := s.heap.size)
  generalize hAe : va_A [(h0, .inr (5, [.null, .null, .null, .int 0, .long 0, .long 0]))] s.heap.size = A at hD ⊢
  have hA : ∀ q : Nat, s.heap.size ≤ q → A q := fun q h => by rw [← hAe]; exact Or.inr h
  have hS : va_S A s.heap s.heap [] := va_S.rf
  have hP : va_P G.1 vwCl [(h0, .inr (5, [.null, .null, .null, .int 0, .long 0, .long 0]))] s.heap := hP
  have hl := lv_entry ([.ref h0]) (n := 1) (Nat.le_of_ble_eq_true rfl)
  rw [lg_entry_eq]
  generalize (lg_sl ([.ref h0]) ++ List.replicate (1 - (lg_sl ([.ref h0])).length) Slot.unset).toArray = ls at hl ⊢
  have hl : lv_has ls 1 [(0, .ref h0)] := hl
  have kf0 := hts (.methodLink RX7 3 objectInit) (List.mem_of_getElem? (i := 1) (by decide +kernel))
  have kf1 := hts (.instanceMethod objectInit) (List.mem_of_getElem? (i := 2) (by decide +kernel))
  have kf2 := hts (.code objectInit ⟨#[0xb1]⟩ 1 none) (List.mem_of_getElem? (i := 3) (by decide +kernel))
  have kf3 := hts (.arrayClass .boolean) (List.mem_of_getElem? (i := 4) (by decide +kernel))
  have kf4 := hts (.fieldLink RX7 9 "HallOfClaims$Sorts" "chosen" "[Z") (List.mem_of_getElem? (i := 5) (by decide +kernel))
  have kf5 := hts (.fieldLink RX7 15 "HallOfClaims$Sorts" "marked" "[Z") (List.mem_of_getElem? (i := 6) (by decide +kernel))
  have kf6 := hts (.fieldLink RX7 18 "HallOfClaims$Sorts" "surpassed" "[Z") (List.mem_of_getElem? (i := 7) (by decide +kernel))
  have kf7 := hts (.fieldLink RX7 21 "HallOfClaims$Sorts" "heard" "I") (List.mem_of_getElem? (i := 8) (by decide +kernel))
  have kf8 := hts (.fieldLink RX7 25 "HallOfClaims$Sorts" "defeats" "J") (List.mem_of_getElem? (i := 9) (by decide +kernel))
  have kf9 := hts (.fieldLink RX7 29 "HallOfClaims$Sorts" "defeaters" "J") (List.mem_of_getElem? (i := 10) (by decide +kernel))
  have ki_X7 : ∀ w ∈ u_ws RX7 TX7 6, w ∈ wsX7_init := by decide +kernel
  refine lv_aload_n hx hb dX7_init_0 rfl (lv_at hl 0 rfl) ?_
  refine W.objInit hx hb hown kf0 kf1 kf2 rfl (by rw [hml]; exact hl.1) rfl dX7_init_1 (Nat.le_of_ble_eq_true rfl) (Nat.le_of_ble_eq_true rfl) ?_
  refine W.eq (g2 := F0 m 4 ls []) rfl ?_
  refine lv_aload_n hx hb dX7_init_4 rfl (lv_at hl 0 rfl) ?_
  refine lv_sipush (v := nI 256) hx hb dX7_init_5 (by decide +kernel) ?_
  refine hc_newZ (N := 256) hx hb kf3 hK hP hD hS hA (by decide) rfl (Nat.le_of_ble_eq_true rfl) (Nat.le_of_ble_eq_true rfl) (Nat.le_of_ble_eq_true rfl) dX7_init_8 (fun q8 H hP hD hS => ?_)
  have hP : va_P G.1 vwCl [(h0, .inr (5, [.null, .null, .null, .int 0, .long 0, .long 0])), caZ G q8 256 (fun _ => (0 : Int32))] H := hP
  have hD : va_D A [(h0, .inr (5, [.null, .null, .null, .int 0, .long 0, .long 0])), caZ G q8 256 (fun _ => (0 : Int32))] := hD
  refine W.widen (k := 1) (n := 256) (by omega) (by omega) ?_
  refine va_putF (D := G.1) (ci := 5) (v := .ref q8) (ty := .array .boolean) (C := RX7) (T := TX7) (N := 6) hx hb hts ki_X7 tyX7 tyX7_ok nmX7 hown hK.1 hP hD hS 0 rfl rfl 0 (by decide) kf4 (fun _ h9 => h9) rfl hin rfl (by decide +kernel) rfl rfl (Nat.le_of_ble_eq_true rfl) dX7_init_10 (fun H locs hP hD hS => ?_)
  have hP : va_P G.1 vwCl [(h0, .inr (5, [.ref q8, .null, .null, .int 0, .long 0, .long 0])), caZ G q8 256 (fun _ => (0 : Int32))] H := hP
  have hD : va_D A [(h0, .inr (5, [.ref q8, .null, .null, .int 0, .long 0, .long 0])), caZ G q8 256 (fun _ => (0 : Int32))] := hD
  refine lv_aload_n hx hb dX7_init_13 rfl (lv_at hl 0 rfl) ?_
  refine lv_sipush (v := nI 256) hx hb dX7_init_14 (by decide +kernel) ?_
  refine hc_newZ (N := 256) hx hb kf3 hK hP hD hS hA (by decide) rfl (Nat.le_of_ble_eq_true rfl) (Nat.le_of_ble_eq_true rfl) (Nat.le_of_ble_eq_true rfl) dX7_init_17 (fun q17 H hP hD hS => ?_)
  have hP : va_P G.1 vwCl [(h0, .inr (5, [.ref q8, .null, .null, .int 0, .long 0, .long 0])), caZ G q8 256 (fun _ => (0 : Int32)), caZ G q17 256 (fun _ => (0 : Int32))] H := hP
  have hD : va_D A [(h0, .inr (5, [.ref q8, .null, .null, .int 0, .long 0, .long 0])), caZ G q8 256 (fun _ => (0 : Int32)), caZ G q17 256 (fun _ => (0 : Int32))] := hD
  refine W.widen (k := 2) (n := 512) (by omega) (by omega) ?_
  refine va_putF (D := G.1) (ci := 5) (v := .ref q17) (ty := .array .boolean) (C := RX7) (T := TX7) (N := 6) hx hb hts ki_X7 tyX7 tyX7_ok nmX7 hown hK.1 hP hD hS 0 rfl rfl 1 (by decide) kf5 (fun _ h9 => h9) rfl hin rfl (by decide +kernel) rfl rfl (Nat.le_of_ble_eq_true rfl) dX7_init_19 (fun H locs hP hD hS => ?_)
  have hP : va_P G.1 vwCl [(h0, .inr (5, [.ref q8, .ref q17, .null, .int 0, .long 0, .long 0])), caZ G q8 256 (fun _ => (0 : Int32)), caZ G q17 256 (fun _ => (0 : Int32))] H := hP
  have hD : va_D A [(h0, .inr (5, [.ref q8, .ref q17, .null, .int 0, .long 0, .long 0])), caZ G q8 256 (fun _ => (0 : Int32)), caZ G q17 256 (fun _ => (0 : Int32))] := hD
  refine lv_aload_n hx hb dX7_init_22 rfl (lv_at hl 0 rfl) ?_
  refine lv_sipush (v := nI 256) hx hb dX7_init_23 (by decide +kernel) ?_
  refine hc_newZ (N := 256) hx hb kf3 hK hP hD hS hA (by decide) rfl (Nat.le_of_ble_eq_true rfl) (Nat.le_of_ble_eq_true rfl) (Nat.le_of_ble_eq_true rfl) dX7_init_26 (fun q26 H hP hD hS => ?_)
  have hP : va_P G.1 vwCl [(h0, .inr (5, [.ref q8, .ref q17, .null, .int 0, .long 0, .long 0])), caZ G q8 256 (fun _ => (0 : Int32)), caZ G q17 256 (fun _ => (0 : Int32)), caZ G q26 256 (fun _ => (0 : Int32))] H := hP
  have hD : va_D A [(h0, .inr (5, [.ref q8, .ref q17, .null, .int 0, .long 0, .long 0])), caZ G q8 256 (fun _ => (0 : Int32)), caZ G q17 256 (fun _ => (0 : Int32)), caZ G q26 256 (fun _ => (0 : Int32))] := hD
  refine W.widen (k := 3) (n := 768) (by omega) (by omega) ?_
  refine va_putF (D := G.1) (ci := 5) (v := .ref q26) (ty := .array .boolean) (C := RX7) (T := TX7) (N := 6) hx hb hts ki_X7 tyX7 tyX7_ok nmX7 hown hK.1 hP hD hS 0 rfl rfl 2 (by decide) kf6 (fun _ h9 => h9) rfl hin rfl (by decide +kernel) rfl rfl (Nat.le_of_ble_eq_true rfl) dX7_init_28 (fun H locs hP hD hS => ?_)
  have hP : va_P G.1 vwCl [(h0, .inr (5, [.ref q8, .ref q17, .ref q26, .int 0, .long 0, .long 0])), caZ G q8 256 (fun _ => (0 : Int32)), caZ G q17 256 (fun _ => (0 : Int32)), caZ G q26 256 (fun _ => (0 : Int32))] H := hP
  have hD : va_D A [(h0, .inr (5, [.ref q8, .ref q17, .ref q26, .int 0, .long 0, .long 0])), caZ G q8 256 (fun _ => (0 : Int32)), caZ G q17 256 (fun _ => (0 : Int32)), caZ G q26 256 (fun _ => (0 : Int32))] := hD
  refine lv_aload_n hx hb dX7_init_31 rfl (lv_at hl 0 rfl) ?_
  refine lv_iconst (v := nI 0) hx hb dX7_init_32 (by decide +kernel) ?_
  refine va_put (D := G.1) (ci := 5) (v := .int (nI 0)) (ty := .int) (C := RX7) (T := TX7) (N := 6) hx hb hts ki_X7 tyX7 tyX7_ok nmX7 hown hK.1 hP hD hS 0 rfl rfl 3 (by decide) kf7 (fun _ h9 => h9) rfl (by decide +kernel) rfl rfl (Nat.le_of_ble_eq_true rfl) dX7_init_33 (fun H locs hP hD hS => ?_)
  have hP : va_P G.1 vwCl [(h0, .inr (5, [.ref q8, .ref q17, .ref q26, .int (nI 0), .long 0, .long 0])), caZ G q8 256 (fun _ => (0 : Int32)), caZ G q17 256 (fun _ => (0 : Int32)), caZ G q26 256 (fun _ => (0 : Int32))] H := hP
  have hD : va_D A [(h0, .inr (5, [.ref q8, .ref q17, .ref q26, .int (nI 0), .long 0, .long 0])), caZ G q8 256 (fun _ => (0 : Int32)), caZ G q17 256 (fun _ => (0 : Int32)), caZ G q26 256 (fun _ => (0 : Int32))] := hD
  refine lv_aload_n hx hb dX7_init_36 rfl (lv_at hl 0 rfl) ?_
  refine lv_lconst (v := lN 0) hx hb dX7_init_37 (by decide +kernel) ?_
  refine va_put (D := G.1) (ci := 5) (v := .long (lN 0)) (ty := .long) (C := RX7) (T := TX7) (N := 6) hx hb hts ki_X7 tyX7 tyX7_ok nmX7 hown hK.1 hP hD hS 0 rfl rfl 4 (by decide) kf8 (fun _ h9 => h9) rfl (by decide +kernel) rfl rfl (Nat.le_of_ble_eq_true rfl) dX7_init_38 (fun H locs hP hD hS => ?_)
  have hP : va_P G.1 vwCl [(h0, .inr (5, [.ref q8, .ref q17, .ref q26, .int (nI 0), .long (lN 0), .long 0])), caZ G q8 256 (fun _ => (0 : Int32)), caZ G q17 256 (fun _ => (0 : Int32)), caZ G q26 256 (fun _ => (0 : Int32))] H := hP
  have hD : va_D A [(h0, .inr (5, [.ref q8, .ref q17, .ref q26, .int (nI 0), .long (lN 0), .long 0])), caZ G q8 256 (fun _ => (0 : Int32)), caZ G q17 256 (fun _ => (0 : Int32)), caZ G q26 256 (fun _ => (0 : Int32))] := hD
  refine lv_aload_n hx hb dX7_init_41 rfl (lv_at hl 0 rfl) ?_
  refine lv_lconst (v := lN 0) hx hb dX7_init_42 (by decide +kernel) ?_
  refine va_put (D := G.1) (ci := 5) (v := .long (lN 0)) (ty := .long) (C := RX7) (T := TX7) (N := 6) hx hb hts ki_X7 tyX7 tyX7_ok nmX7 hown hK.1 hP hD hS 0 rfl rfl 5 (by decide) kf9 (fun _ h9 => h9) rfl (by decide +kernel) rfl rfl (Nat.le_of_ble_eq_true rfl) dX7_init_43 (fun H locs hP hD hS => ?_)
  have hP : va_P G.1 vwCl [(h0, .inr (5, [.ref q8, .ref q17, .ref q26, .int (nI 0), .long (lN 0), .long (lN 0)])), caZ G q8 256 (fun _ => (0 : Int32)), caZ G q17 256 (fun _ => (0 : Int32)), caZ G q26 256 (fun _ => (0 : Int32))] H := hP
  have hD : va_D A [(h0, .inr (5, [.ref q8, .ref q17, .ref q26, .int (nI 0), .long (lN 0), .long (lN 0)])), caZ G q8 256 (fun _ => (0 : Int32)), caZ G q17 256 (fun _ => (0 : Int32)), caZ G q26 256 (fun _ => (0 : Int32))] := hD
  exact W.vret hx hb hr (fun t ht hW => ⟨⟨⟨q8, q17, q26⟩, rfl, trivial, ⟨by rw [ht]; exact hP, hD⟩⟩, hS.F ht⟩) hS.2.2 dX7_init_46
set_option maxHeartbeats 4000000 in
set_option maxRecDepth 100000 in
theorem c_X2_init (l : Launch) (G : hcG) (h0 sz : Nat) : Met l yX2_init wsX2_init ({ frames := 1, cells := 2, slots := 4096, locals := 12 }) (hcPc G [.ref h0] [(h0, .inr (1, [.null, .null, .long 0]))] sz) (va_Qv (fun _ : Nat × Nat => True) (hcB G (va_A [(h0, .inr (1, [.null, .null, .long 0]))] sz) (fun u : Nat × Nat => [(h0, .inr (1, [.ref u.1, .ref u.2, .long (lN 0)])), caI G u.1 2048 (fun _ => (0 : Int32)), caI G u.2 2048 (fun _ => (0 : Int32))])) (va_A [(h0, .inr (1, [.null, .null, .long 0]))] sz)) 2 (4096) (va_A [(h0, .inr (1, [.null, .null, .long 0]))] sz) := by
  refine Met.ofW (cc := cX2_init) (maxL := 1) (ret := none) (by decide) rfl ?_
  intro p e s m args below meth c s₁ B hml hv
  obtain ⟨rfl, hsz, hP, hK, hD0⟩ := hv
  have hx := B.exec
  have hb := B.bytes
  have hr := B.returns
  have hts := atoms_spec (ws := wsX2_init) B.pre
  have hown : s.vm.findClass RX2 = some m.cls := findClass_of_methodNamed B.named
  have hlocks := B.notSynchronized
  have hin : meth.name = "<init>" := (name_of_methodNamed B.named B.method).1
  subst hsz
  have hD := hD0.self (sz := s.heap.size)
  generalize hAe : va_A [(h0, .inr (1, [.null, .null, .long 0]))] s.heap.size = A at hD ⊢
  have hA : ∀ q : Nat, s.heap.size ≤ q → A q := fun q h => by rw [← hAe]; exact Or.inr h
  have hS : va_S A s.heap s.heap [] := va_S.rf
  have hP : va_P G.1 vwCl [(h0, .inr (1, [.null, .null, .long 0]))] s.heap := hP
  have hl := lv_entry ([.ref h0]) (n := 1) (Nat.le_of_ble_eq_true rfl)
  rw [lg_entry_eq]
  generalize (lg_sl ([.ref h0]) ++ List.replicate (1 - (lg_sl ([.ref h0])).length) Slot.unset).toArray = ls at hl ⊢
  have hl : lv_has ls 1 [(0, .ref h0)] := hl
  have kf0 := hts (.methodLink RX2 3 objectInit) (List.mem_of_getElem? (i := 1) (by decide +kernel))
  have kf1 := hts (.instanceMethod objectInit) (List.mem_of_getElem? (i := 2) (by decide +kernel))
  have kf2 := hts (.code objectInit ⟨#[0xb1]⟩ 1 none) (List.mem_of_getElem? (i := 3) (by decide +kernel))
  have kf3 := hts (.arrayClass .int) (List.mem_of_getElem? (i := 4) (by decide +kernel))
  have kf4 := hts (.fieldLink RX2 9 "HallOfClaims$Game" "depths" "[I") (List.mem_of_getElem? (i := 5) (by decide +kernel))
  have kf5 := hts (.fieldLink RX2 15 "HallOfClaims$Game" "ways" "[I") (List.mem_of_getElem? (i := 6) (by decide +kernel))
  have kf6 := hts (.fieldLink RX2 18 "HallOfClaims$Game" "defeaters" "J") (List.mem_of_getElem? (i := 7) (by decide +kernel))
  have ki_X2 : ∀ w ∈ u_ws RX2 TX2 3, w ∈ wsX2_init := by decide +kernel
  refine lv_aload_n hx hb dX2_init_0 rfl (lv_at hl 0 rfl) ?_
  refine W.objInit hx hb hown kf0 kf1 kf2 rfl (by rw [hml]; exact hl.1) rfl dX2_init_1 (Nat.le_of_ble_eq_true rfl) (Nat.le_of_ble_eq_true rfl) ?_
  refine W.eq (g2 := F0 m 4 ls []) rfl ?_
  refine lv_aload_n hx hb dX2_init_4 rfl (lv_at hl 0 rfl) ?_
  refine lv_sipush (v := nI 2048) hx hb dX2_init_5 (by decide +kernel) ?_
  refine hc_newI (N := 2048) hx hb kf3 hK hP hD hS hA (by decide) rfl (Nat.le_of_ble_eq_true rfl) (Nat.le_of_ble_eq_true rfl) (Nat.le_of_ble_eq_true rfl) dX2_init_8 (fun q8 H hP hD hS => ?_)
  have hP : va_P G.1 vwCl [(h0, .inr (1, [.null, .null, .long 0])), caI G q8 2048 (fun _ => (0 : Int32))] H := hP
  have hD : va_D A [(h0, .inr (1, [.null, .null, .long 0])), caI G q8 2048 (fun _ => (0 : Int32))] := hD
  refine W.widen (k := 1) (n := 2048) (by omega) (by omega) ?_
  refine va_putF (D := G.1) (ci := 1) (v := .ref q8) (ty := .array .int) (C := RX2) (T := TX2) (N := 3) hx hb hts ki_X2 tyX2 tyX2_ok nmX2 hown hK.1 hP hD hS 0 rfl rfl 0 (by decide) kf4 (fun _ h9 => h9) rfl hin rfl (by decide +kernel) rfl rfl (Nat.le_of_ble_eq_true rfl) dX2_init_10 (fun H locs hP hD hS => ?_)
  have hP : va_P G.1 vwCl [(h0, .inr (1, [.ref q8, .null, .long 0])), caI G q8 2048 (fun _ => (0 : Int32))] H := hP
  have hD : va_D A [(h0, .inr (1, [.ref q8, .null, .long 0])), caI G q8 2048 (fun _ => (0 : Int32))] := hD
  refine lv_aload_n hx hb dX2_init_13 rfl (lv_at hl 0 rfl) ?_
  refine lv_sipush (v := nI 2048) hx hb dX2_init_14 (by decide +kernel) ?_
  refine hc_newI (N := 2048) hx hb kf3 hK hP hD hS hA (by decide) rfl (Nat.le_of_ble_eq_true rfl) (Nat.le_of_ble_eq_true rfl) (Nat.le_of_ble_eq_true rfl) dX2_init_17 (fun q17 H hP hD hS => ?_)
  have hP : va_P G.1 vwCl [(h0, .inr (1, [.ref q8, .null, .long 0])), caI G q8 2048 (fun _ => (0 : Int32)), caI G q17 2048 (fun _ => (0 : Int32))] H := hP
  have hD : va_D A [(h0, .inr (1, [.ref q8, .null, .long 0])), caI G q8 2048 (fun _ => (0 : Int32)), caI G q17 2048 (fun _ => (0 : Int32))] := hD
  refine W.widen (k := 2) (n := 4096) (by omega) (by omega) ?_
  refine va_putF (D := G.1) (ci := 1) (v := .ref q17) (ty := .array .int) (C := RX2) (T := TX2) (N := 3) hx hb hts ki_X2 tyX2 tyX2_ok nmX2 hown hK.1 hP hD hS 0 rfl rfl 1 (by decide) kf5 (fun _ h9 => h9) rfl hin rfl (by decide +kernel) rfl rfl (Nat.le_of_ble_eq_true rfl) dX2_init_19 (fun H locs hP hD hS => ?_)
  have hP : va_P G.1 vwCl [(h0, .inr (1, [.ref q8, .ref q17, .long 0])), caI G q8 2048 (fun _ => (0 : Int32)), caI G q17 2048 (fun _ => (0 : Int32))] H := hP
  have hD : va_D A [(h0, .inr (1, [.ref q8, .ref q17, .long 0])), caI G q8 2048 (fun _ => (0 : Int32)), caI G q17 2048 (fun _ => (0 : Int32))] := hD
  refine lv_aload_n hx hb dX2_init_22 rfl (lv_at hl 0 rfl) ?_
  refine lv_lconst (v := lN 0) hx hb dX2_init_23 (by decide +kernel) ?_
  refine va_put (D := G.1) (ci := 1) (v := .long (lN 0)) (ty := .long) (C := RX2) (T := TX2) (N := 3) hx hb hts ki_X2 tyX2 tyX2_ok nmX2 hown hK.1 hP hD hS 0 rfl rfl 2 (by decide) kf6 (fun _ h9 => h9) rfl (by decide +kernel) rfl rfl (Nat.le_of_ble_eq_true rfl) dX2_init_24 (fun H locs hP hD hS => ?_)
  have hP : va_P G.1 vwCl [(h0, .inr (1, [.ref q8, .ref q17, .long (lN 0)])), caI G q8 2048 (fun _ => (0 : Int32)), caI G q17 2048 (fun _ => (0 : Int32))] H := hP
  have hD : va_D A [(h0, .inr (1, [.ref q8, .ref q17, .long (lN 0)])), caI G q8 2048 (fun _ => (0 : Int32)), caI G q17 2048 (fun _ => (0 : Int32))] := hD
  exact W.vret hx hb hr (fun t ht hW => ⟨⟨⟨q8, q17⟩, rfl, trivial, ⟨by rw [ht]; exact hP, hD⟩⟩, hS.F ht⟩) hS.2.2 dX2_init_27
set_option maxHeartbeats 4000000 in
set_option maxRecDepth 100000 in
theorem c_X5_init (l : Launch) (G : hcG) (h0 sz : Nat) : Met l yX5_init wsX5_init ({ frames := 2, cells := 3, slots := 106, locals := 42 }) (hcPc G [.ref h0] [(h0, .inr (3, [.null, .null]))] sz) (va_Qv (fun _ : Nat × Nat × Nat => True) (hcB G (va_A [(h0, .inr (3, [.null, .null]))] sz) (fun u : Nat × Nat × Nat => [(h0, .inr (3, [.ref u.1, .ref u.2.2])), (u.1, .inr (4, [.ref u.2.1, .int (nI 0)])), caI G u.2.1 96 (fun _ => (0 : Int32)), (u.2.2, .inr (2, [.int (nI 0), .int (nI 0), .int (nI 3), .long (lN 0), .long (lN 0), .long (lN 0), .long (lN 0), .long (lN 0)]))])) (va_A [(h0, .inr (3, [.null, .null]))] sz)) 3 (106) (va_A [(h0, .inr (3, [.null, .null]))] sz) := by
  refine Met.ofW (cc := cX5_init) (maxL := 1) (ret := none) (by decide) rfl ?_
  intro p e s m args below meth c s₁ B hml hv
  obtain ⟨rfl, hsz, hP, hK, hD0⟩ := hv
  have hx := B.exec
  have hb := B.bytes
  have hr := B.returns
  have hts := atoms_spec (ws := wsX5_init) B.pre
  have hown : s.vm.findClass RX5 = some m.cls := findClass_of_methodNamed B.named
  have hlocks := B.notSynchronized
  have hin : meth.name = "<init>" := (name_of_methodNamed B.named B.method).1
  subst hsz
  have hD := hD0.self (sz := s.heap.size)
  generalize hAe : va_A [(h0, .inr (3, [.null, .null]))] s.heap.size = A at hD ⊢
  have hA : ∀ q : Nat, s.heap.size ≤ q → A q := fun q h => by rw [← hAe]; exact Or.inr h
  have hS : va_S A s.heap s.heap [] := va_S.rf
  have hP : va_P G.1 vwCl [(h0, .inr (3, [.null, .null]))] s.heap := hP
  have hl := lv_entry ([.ref h0]) (n := 1) (Nat.le_of_ble_eq_true rfl)
  rw [lg_entry_eq]
  generalize (lg_sl ([.ref h0]) ++ List.replicate (1 - (lg_sl ([.ref h0])).length) Slot.unset).toArray = ls at hl ⊢
  have hl : lv_has ls 1 [(0, .ref h0)] := hl
  have kf0 := hts (.methodLink RX5 3 objectInit) (List.mem_of_getElem? (i := 1) (by decide +kernel))
  have kf1 := hts (.instanceMethod objectInit) (List.mem_of_getElem? (i := 2) (by decide +kernel))
  have kf2 := hts (.code objectInit ⟨#[0xb1]⟩ 1 none) (List.mem_of_getElem? (i := 3) (by decide +kernel))
  have kf3 := hts (.classLink RX5 9 RX6) (List.mem_of_getElem? (i := 4) (by decide +kernel))
  have kf4 := hts (.instantiable RX6 2) (List.mem_of_getElem? (i := 5) (by decide +kernel))
  have kf5 := hts (.initialized RX6) (List.mem_of_getElem? (i := 6) (by decide +kernel))
  have kf6 := hts (.methodLink RX5 11 yX6_init) (List.mem_of_getElem? (i := 12) (by decide +kernel))
  have kf7 := hts (.instanceMethod yX6_init) (List.mem_of_getElem? (i := 13) (by decide +kernel))
  have kf8 := hts (.fieldLink RX5 14 "HallOfClaims$Reader" "letters" "LHallOfClaims$Row;") (List.mem_of_getElem? (i := 7) (by decide +kernel))
  have kf9 := hts (.classLink RX5 20 RX3) (List.mem_of_getElem? (i := 8) (by decide +kernel))
  have kf10 := hts (.instantiable RX3 8) (List.mem_of_getElem? (i := 9) (by decide +kernel))
  have kf11 := hts (.initialized RX3) (List.mem_of_getElem? (i := 10) (by decide +kernel))
  have kf12 := hts (.instanceMethod yX3_init) (List.mem_of_getElem? (i := 23) (by decide +kernel))
  have kf13 := hts (.fieldLink RX5 23 "HallOfClaims$Reader" "draft" "LHallOfClaims$Hall;") (List.mem_of_getElem? (i := 11) (by decide +kernel))
  have ki_X3 : ∀ w ∈ u_ws RX3 TX3 8, w ∈ wsX5_init := by decide +kernel
  have ki_X5 : ∀ w ∈ u_ws RX5 TX5 2, w ∈ wsX5_init := by decide +kernel
  have ki_X6 : ∀ w ∈ u_ws RX6 TX6 2, w ∈ wsX5_init := by decide +kernel
  refine lv_aload_n hx hb dX5_init_0 rfl (lv_at hl 0 rfl) ?_
  refine W.objInit hx hb hown kf0 kf1 kf2 rfl (by rw [hml]; exact hl.1) rfl dX5_init_1 (Nat.le_of_ble_eq_true rfl) (Nat.le_of_ble_eq_true rfl) ?_
  refine W.eq (g2 := F0 m 4 ls []) rfl ?_
  refine lv_aload_n hx hb dX5_init_4 rfl (lv_at hl 0 rfl) ?_
  refine va_new (ci := 4) (fs := [.null, .int 0]) (C := RX6) (T := TX6) (N := 2) hx hb hts ki_X6 tyX6 tyX6_ok hown kf3 kf4 kf5 hK.1 hP hD hS hA rfl (fun j hj => by rcases (show j = 0 ∨ j = 1 by omega) with rfl | rfl <;> rfl) (Nat.le_of_ble_eq_true rfl) (Nat.le_of_ble_eq_true rfl) dX5_init_5 (fun q5 H hP hD hS => ?_)
  have hP : va_P G.1 vwCl [(h0, .inr (3, [.null, .null])), (q5, .inr (4, [.null, .int 0]))] H := hP
  have hD : va_D A [(h0, .inr (3, [.null, .null])), (q5, .inr (4, [.null, .int 0]))] := hD
  refine W.widen (k := 1) (n := 2) (by omega) (by omega) ?_
  refine lv_dup hx hb dX5_init_8 rfl ?_
  refine lv_bipush (v := nI 96) hx hb dX5_init_9 (by decide +kernel) ?_
  refine hc_kvI (wr := [(h0, .inr (3, [.null, .null]))]) (va_runI (As := [.int (nI 96)]) (rest := [.ref q5, .ref h0]) ⟨hx, hb, hml, hown, hts⟩ (c_X6_init l G q5 H.size 96 (by decide)) (cwI 1 hts gX5_init_X6_init rfl rfl rfl kf5 kf6 kf7 rfl (by decide +kernel) ⟨Nat.le_of_ble_eq_true rfl, Nat.le_of_ble_eq_true rfl⟩) (hc_pS hK hP hD [1] rfl rfl) rfl rfl hl.1 rfl (lv_room (Nat.le_of_ble_eq_true rfl)) dX5_init_11 ⟨Nat.le_of_ble_eq_true rfl, Nat.le_of_ble_eq_true rfl⟩) hP hD hS hA [1] [0] rfl rfl rfl (by decide) (fun u H locs h hP hD hS => ?_)
  obtain ⟨q11_0, rfl⟩ : ∃ z, z = u := ⟨_, rfl⟩
  have hP : va_P G.1 vwCl [(h0, .inr (3, [.null, .null])), (q5, .inr (4, [.ref q11_0, .int (nI 0)])), caI G q11_0 96 (fun _ => (0 : Int32))] H := hP
  have hD : va_D A [(h0, .inr (3, [.null, .null])), (q5, .inr (4, [.ref q11_0, .int (nI 0)])), caI G q11_0 96 (fun _ => (0 : Int32))] := hD
  refine W.widen (k := 2) (n := 98) (by omega) (by omega) ?_
  refine va_putF (D := G.1) (ci := 3) (v := .ref q5) (ty := .object "HallOfClaims$Row") (C := RX5) (T := TX5) (N := 2) hx hb hts ki_X5 tyX5 tyX5_ok nmX5 hown hK.1 hP hD hS 0 rfl rfl 0 (by decide) kf8 (fun _ h9 => h9) rfl hin rfl (by decide +kernel) rfl rfl (Nat.le_of_ble_eq_true rfl) dX5_init_14 (fun H locs hP hD hS => ?_)
  have hP : va_P G.1 vwCl [(h0, .inr (3, [.ref q5, .null])), (q5, .inr (4, [.ref q11_0, .int (nI 0)])), caI G q11_0 96 (fun _ => (0 : Int32))] H := hP
  have hD : va_D A [(h0, .inr (3, [.ref q5, .null])), (q5, .inr (4, [.ref q11_0, .int (nI 0)])), caI G q11_0 96 (fun _ => (0 : Int32))] := hD
  refine lv_aload_n hx hb dX5_init_17 rfl (lv_at hl 0 rfl) ?_
  refine va_new (ci := 2) (fs := [.int 0, .int 0, .int 0, .long 0, .long 0, .long 0, .long 0, .long 0]) (C := RX3) (T := TX3) (N := 8) hx hb hts ki_X3 tyX3 tyX3_ok hown kf9 kf10 kf11 hK.1 hP hD hS hA rfl (fun j hj => by rcases (show j = 0 ∨ j = 1 ∨ j = 2 ∨ j = 3 ∨ j = 4 ∨ j = 5 ∨ j = 6 ∨ j = 7 by omega) with rfl | rfl | rfl | rfl | rfl | rfl | rfl | rfl <;> rfl) (Nat.le_of_ble_eq_true rfl) (Nat.le_of_ble_eq_true rfl) dX5_init_18 (fun q18 H hP hD hS => ?_)
  have hP : va_P G.1 vwCl [(h0, .inr (3, [.ref q5, .null])), (q5, .inr (4, [.ref q11_0, .int (nI 0)])), caI G q11_0 96 (fun _ => (0 : Int32)), (q18, .inr (2, [.int 0, .int 0, .int 0, .long 0, .long 0, .long 0, .long 0, .long 0]))] H := hP
  have hD : va_D A [(h0, .inr (3, [.ref q5, .null])), (q5, .inr (4, [.ref q11_0, .int (nI 0)])), caI G q11_0 96 (fun _ => (0 : Int32)), (q18, .inr (2, [.int 0, .int 0, .int 0, .long 0, .long 0, .long 0, .long 0, .long 0]))] := hD
  refine W.widen (k := 3) (n := 106) (by omega) (by omega) ?_
  refine lv_dup hx hb dX5_init_21 rfl ?_
  refine hc_kvI (wr := [(h0, .inr (3, [.ref q5, .null])), (q5, .inr (4, [.ref q11_0, .int (nI 0)])), caI G q11_0 96 (fun _ => (0 : Int32))]) (va_runIN (As := []) (rest := [.ref q18, .ref h0]) ⟨hx, hb, hml, hown, hts⟩ (c_X3_init l G q18 H.size) ⟨va_cnB (own := RX5) (index := 22) 0 hts gX5_init_X3_init_n22 rfl rfl rfl (hK.2 (RX5, 22, yX3_init, RX10) (by simp [hcNs])) kf11 (by decide +kernel) ⟨Nat.le_of_ble_eq_true rfl, Nat.le_of_ble_eq_true rfl⟩, rfl, kf12⟩ (hc_pS hK hP hD [3] rfl rfl) rfl rfl hl.1 rfl (lv_room (Nat.le_of_ble_eq_true rfl)) dX5_init_22 ⟨Nat.le_of_ble_eq_true rfl, Nat.le_of_ble_eq_true rfl⟩) hP hD hS hA [3] [0, 1, 2] rfl rfl rfl (by decide) (fun u H locs h hP hD hS => ?_)
  have hP : va_P G.1 vwCl [(h0, .inr (3, [.ref q5, .null])), (q5, .inr (4, [.ref q11_0, .int (nI 0)])), caI G q11_0 96 (fun _ => (0 : Int32)), (q18, .inr (2, [.int (nI 0), .int (nI 0), .int (nI 3), .long (lN 0), .long (lN 0), .long (lN 0), .long (lN 0), .long (lN 0)]))] H := hP
  have hD : va_D A [(h0, .inr (3, [.ref q5, .null])), (q5, .inr (4, [.ref q11_0, .int (nI 0)])), caI G q11_0 96 (fun _ => (0 : Int32)), (q18, .inr (2, [.int (nI 0), .int (nI 0), .int (nI 3), .long (lN 0), .long (lN 0), .long (lN 0), .long (lN 0), .long (lN 0)]))] := hD
  refine W.widen (k := 3) (n := 106) (by omega) (by omega) ?_
  refine va_putF (D := G.1) (ci := 3) (v := .ref q18) (ty := .object "HallOfClaims$Hall") (C := RX5) (T := TX5) (N := 2) hx hb hts ki_X5 tyX5 tyX5_ok nmX5 hown hK.1 hP hD hS 0 rfl rfl 1 (by decide) kf13 (fun _ h9 => h9) rfl hin rfl (by decide +kernel) rfl rfl (Nat.le_of_ble_eq_true rfl) dX5_init_25 (fun H locs hP hD hS => ?_)
  have hP : va_P G.1 vwCl [(h0, .inr (3, [.ref q5, .ref q18])), (q5, .inr (4, [.ref q11_0, .int (nI 0)])), caI G q11_0 96 (fun _ => (0 : Int32)), (q18, .inr (2, [.int (nI 0), .int (nI 0), .int (nI 3), .long (lN 0), .long (lN 0), .long (lN 0), .long (lN 0), .long (lN 0)]))] H := hP
  have hD : va_D A [(h0, .inr (3, [.ref q5, .ref q18])), (q5, .inr (4, [.ref q11_0, .int (nI 0)])), caI G q11_0 96 (fun _ => (0 : Int32)), (q18, .inr (2, [.int (nI 0), .int (nI 0), .int (nI 3), .long (lN 0), .long (lN 0), .long (lN 0), .long (lN 0), .long (lN 0)]))] := hD
  exact W.vret hx hb hr (fun t ht hW => ⟨⟨⟨q5, q11_0, q18⟩, rfl, trivial, ⟨by rw [ht]; exact hP, hD⟩⟩, hS.F ht⟩) hS.2.2 dX5_init_28
set_option maxHeartbeats 4000000 in
set_option maxRecDepth 100000 in
theorem c_X8_init (l : Launch) (G : hcG) (h0 sz : Nat) : Met l yX8_init wsX8_init ({ frames := 2, cells := 3, slots := 16, locals := 32 }) (hcPc G [.ref h0] [(h0, .inr (6, [.null, .null, .null]))] sz) (va_Qv (fun _ : Nat × Nat × Nat => True) (hcB G (va_A [(h0, .inr (6, [.null, .null, .null]))] sz) (fun u : Nat × Nat × Nat => [(h0, .inr (6, [.ref u.1, .ref u.2.1, .ref u.2.2])), (u.1, .inr (2, [.int (nI 0), .int (nI 0), .int (nI 3), .long (lN 0), .long (lN 0), .long (lN 0), .long (lN 0), .long (lN 0)])), (u.2.1, .inr (0, [.long (lN 0), .long (lN 0), .long (lN 0), .long (lN 0)])), (u.2.2, .inr (7, [.int (nI 0), .int (nI 0), .int (nI 0), .long (lN 0)]))])) (va_A [(h0, .inr (6, [.null, .null, .null]))] sz)) 3 (16) (va_A [(h0, .inr (6, [.null, .null, .null]))] sz) := by
  refine Met.ofW (cc := cX8_init) (maxL := 1) (ret := none) (by decide) rfl ?_
  intro p e s m args below meth c s₁ B hml hv
  obtain ⟨rfl, hsz, hP, hK, hD0⟩ := hv
  have hx := B.exec
  have hb := B.bytes
  have hr := B.returns
  have hts := atoms_spec (ws := wsX8_init) B.pre
  have hown : s.vm.findClass RX8 = some m.cls := findClass_of_methodNamed B.named
  have hlocks := B.notSynchronized
  have hin : meth.name = "<init>" := (name_of_methodNamed B.named B.method).1
  subst hsz
  have hD := hD0.self (sz := s.heap.size)
  generalize hAe : va_A [(h0, .inr (6, [.null, .null, .null]))] s.heap.size = A at hD ⊢
  have hA : ∀ q : Nat, s.heap.size ≤ q → A q := fun q h => by rw [← hAe]; exact Or.inr h
  have hS : va_S A s.heap s.heap [] := va_S.rf
  have hP : va_P G.1 vwCl [(h0, .inr (6, [.null, .null, .null]))] s.heap := hP
  have hl := lv_entry ([.ref h0]) (n := 1) (Nat.le_of_ble_eq_true rfl)
  rw [lg_entry_eq]
  generalize (lg_sl ([.ref h0]) ++ List.replicate (1 - (lg_sl ([.ref h0])).length) Slot.unset).toArray = ls at hl ⊢
  have hl : lv_has ls 1 [(0, .ref h0)] := hl
  have kf0 := hts (.methodLink RX8 3 objectInit) (List.mem_of_getElem? (i := 1) (by decide +kernel))
  have kf1 := hts (.instanceMethod objectInit) (List.mem_of_getElem? (i := 2) (by decide +kernel))
  have kf2 := hts (.code objectInit ⟨#[0xb1]⟩ 1 none) (List.mem_of_getElem? (i := 3) (by decide +kernel))
  have kf3 := hts (.classLink RX8 9 RX3) (List.mem_of_getElem? (i := 4) (by decide +kernel))
  have kf4 := hts (.instantiable RX3 8) (List.mem_of_getElem? (i := 5) (by decide +kernel))
  have kf5 := hts (.initialized RX3) (List.mem_of_getElem? (i := 6) (by decide +kernel))
  have kf6 := hts (.instanceMethod yX3_init) (List.mem_of_getElem? (i := 16) (by decide +kernel))
  have kf7 := hts (.fieldLink RX8 12 "HallOfClaims$Trials" "draft" "LHallOfClaims$Hall;") (List.mem_of_getElem? (i := 7) (by decide +kernel))
  have kf8 := hts (.classLink RX8 18 RX1) (List.mem_of_getElem? (i := 8) (by decide +kernel))
  have kf9 := hts (.instantiable RX1 4) (List.mem_of_getElem? (i := 9) (by decide +kernel))
  have kf10 := hts (.initialized RX1) (List.mem_of_getElem? (i := 10) (by decide +kernel))
  have kf11 := hts (.instanceMethod yX1_init) (List.mem_of_getElem? (i := 27) (by decide +kernel))
  have kf12 := hts (.fieldLink RX8 21 "HallOfClaims$Trials" "strife" "LHallOfClaims$Defeats;") (List.mem_of_getElem? (i := 11) (by decide +kernel))
  have kf13 := hts (.classLink RX8 25 RX9) (List.mem_of_getElem? (i := 12) (by decide +kernel))
  have kf14 := hts (.instantiable RX9 4) (List.mem_of_getElem? (i := 13) (by decide +kernel))
  have kf15 := hts (.initialized RX9) (List.mem_of_getElem? (i := 14) (by decide +kernel))
  have kf16 := hts (.instanceMethod yX9_init) (List.mem_of_getElem? (i := 34) (by decide +kernel))
  have kf17 := hts (.fieldLink RX8 28 "HallOfClaims$Trials" "settled" "LHallOfClaims$Turns;") (List.mem_of_getElem? (i := 15) (by decide +kernel))
  have ki_X1 : ∀ w ∈ u_ws RX1 TX1 4, w ∈ wsX8_init := by decide +kernel
  have ki_X3 : ∀ w ∈ u_ws RX3 TX3 8, w ∈ wsX8_init := by decide +kernel
  have ki_X8 : ∀ w ∈ u_ws RX8 TX8 3, w ∈ wsX8_init := by decide +kernel
  have ki_X9 : ∀ w ∈ u_ws RX9 TX9 4, w ∈ wsX8_init := by decide +kernel
  refine lv_aload_n hx hb dX8_init_0 rfl (lv_at hl 0 rfl) ?_
  refine W.objInit hx hb hown kf0 kf1 kf2 rfl (by rw [hml]; exact hl.1) rfl dX8_init_1 (Nat.le_of_ble_eq_true rfl) (Nat.le_of_ble_eq_true rfl) ?_
  refine W.eq (g2 := F0 m 4 ls []) rfl ?_
  refine lv_aload_n hx hb dX8_init_4 rfl (lv_at hl 0 rfl) ?_
  refine va_new (ci := 2) (fs := [.int 0, .int 0, .int 0, .long 0, .long 0, .long 0, .long 0, .long 0]) (C := RX3) (T := TX3) (N := 8) hx hb hts ki_X3 tyX3 tyX3_ok hown kf3 kf4 kf5 hK.1 hP hD hS hA rfl (fun j hj => by rcases (show j = 0 ∨ j = 1 ∨ j = 2 ∨ j = 3 ∨ j = 4 ∨ j = 5 ∨ j = 6 ∨ j = 7 by omega) with rfl | rfl | rfl | rfl | rfl | rfl | rfl | rfl <;> rfl) (Nat.le_of_ble_eq_true rfl) (Nat.le_of_ble_eq_true rfl) dX8_init_5 (fun q5 H hP hD hS => ?_)
  have hP : va_P G.1 vwCl [(h0, .inr (6, [.null, .null, .null])), (q5, .inr (2, [.int 0, .int 0, .int 0, .long 0, .long 0, .long 0, .long 0, .long 0]))] H := hP
  have hD : va_D A [(h0, .inr (6, [.null, .null, .null])), (q5, .inr (2, [.int 0, .int 0, .int 0, .long 0, .long 0, .long 0, .long 0, .long 0]))] := hD
  refine W.widen (k := 1) (n := 8) (by omega) (by omega) ?_
  refine lv_dup hx hb dX8_init_8 rfl ?_
  refine hc_kvI (wr := [(h0, .inr (6, [.null, .null, .null]))]) (va_runIN (As := []) (rest := [.ref q5, .ref h0]) ⟨hx, hb, hml, hown, hts⟩ (c_X3_init l G q5 H.size) ⟨va_cnB (own := RX8) (index := 11) 0 hts gX8_init_X3_init_n11 rfl rfl rfl (hK.2 (RX8, 11, yX3_init, RX10) (by simp [hcNs])) kf5 (by decide +kernel) ⟨Nat.le_of_ble_eq_true rfl, Nat.le_of_ble_eq_true rfl⟩, rfl, kf6⟩ (hc_pS hK hP hD [1] rfl rfl) rfl rfl hl.1 rfl (lv_room (Nat.le_of_ble_eq_true rfl)) dX8_init_9 ⟨Nat.le_of_ble_eq_true rfl, Nat.le_of_ble_eq_true rfl⟩) hP hD hS hA [1] [0] rfl rfl rfl (by decide) (fun u H locs h hP hD hS => ?_)
  have hP : va_P G.1 vwCl [(h0, .inr (6, [.null, .null, .null])), (q5, .inr (2, [.int (nI 0), .int (nI 0), .int (nI 3), .long (lN 0), .long (lN 0), .long (lN 0), .long (lN 0), .long (lN 0)]))] H := hP
  have hD : va_D A [(h0, .inr (6, [.null, .null, .null])), (q5, .inr (2, [.int (nI 0), .int (nI 0), .int (nI 3), .long (lN 0), .long (lN 0), .long (lN 0), .long (lN 0), .long (lN 0)]))] := hD
  refine W.widen (k := 1) (n := 8) (by omega) (by omega) ?_
  refine va_putF (D := G.1) (ci := 6) (v := .ref q5) (ty := .object "HallOfClaims$Hall") (C := RX8) (T := TX8) (N := 3) hx hb hts ki_X8 tyX8 tyX8_ok nmX8 hown hK.1 hP hD hS 0 rfl rfl 0 (by decide) kf7 (fun _ h9 => h9) rfl hin rfl (by decide +kernel) rfl rfl (Nat.le_of_ble_eq_true rfl) dX8_init_12 (fun H locs hP hD hS => ?_)
  have hP : va_P G.1 vwCl [(h0, .inr (6, [.ref q5, .null, .null])), (q5, .inr (2, [.int (nI 0), .int (nI 0), .int (nI 3), .long (lN 0), .long (lN 0), .long (lN 0), .long (lN 0), .long (lN 0)]))] H := hP
  have hD : va_D A [(h0, .inr (6, [.ref q5, .null, .null])), (q5, .inr (2, [.int (nI 0), .int (nI 0), .int (nI 3), .long (lN 0), .long (lN 0), .long (lN 0), .long (lN 0), .long (lN 0)]))] := hD
  refine lv_aload_n hx hb dX8_init_15 rfl (lv_at hl 0 rfl) ?_
  refine va_new (ci := 0) (fs := [.long 0, .long 0, .long 0, .long 0]) (C := RX1) (T := TX1) (N := 4) hx hb hts ki_X1 tyX1 tyX1_ok hown kf8 kf9 kf10 hK.1 hP hD hS hA rfl (fun j hj => by rcases (show j = 0 ∨ j = 1 ∨ j = 2 ∨ j = 3 by omega) with rfl | rfl | rfl | rfl <;> rfl) (Nat.le_of_ble_eq_true rfl) (Nat.le_of_ble_eq_true rfl) dX8_init_16 (fun q16 H hP hD hS => ?_)
  have hP : va_P G.1 vwCl [(h0, .inr (6, [.ref q5, .null, .null])), (q5, .inr (2, [.int (nI 0), .int (nI 0), .int (nI 3), .long (lN 0), .long (lN 0), .long (lN 0), .long (lN 0), .long (lN 0)])), (q16, .inr (0, [.long 0, .long 0, .long 0, .long 0]))] H := hP
  have hD : va_D A [(h0, .inr (6, [.ref q5, .null, .null])), (q5, .inr (2, [.int (nI 0), .int (nI 0), .int (nI 3), .long (lN 0), .long (lN 0), .long (lN 0), .long (lN 0), .long (lN 0)])), (q16, .inr (0, [.long 0, .long 0, .long 0, .long 0]))] := hD
  refine W.widen (k := 2) (n := 12) (by omega) (by omega) ?_
  refine lv_dup hx hb dX8_init_19 rfl ?_
  refine hc_kvI (wr := [(h0, .inr (6, [.ref q5, .null, .null])), (q5, .inr (2, [.int (nI 0), .int (nI 0), .int (nI 3), .long (lN 0), .long (lN 0), .long (lN 0), .long (lN 0), .long (lN 0)]))]) (va_runIN (As := []) (rest := [.ref q16, .ref h0]) ⟨hx, hb, hml, hown, hts⟩ (c_X1_init l G q16 H.size) ⟨va_cnB (own := RX8) (index := 20) 0 hts gX8_init_X1_init_n20 rfl rfl rfl (hK.2 (RX8, 20, yX1_init, RX10) (by simp [hcNs])) kf10 (by decide +kernel) ⟨Nat.le_of_ble_eq_true rfl, Nat.le_of_ble_eq_true rfl⟩, rfl, kf11⟩ (hc_pS hK hP hD [2] rfl rfl) rfl rfl hl.1 rfl (lv_room (Nat.le_of_ble_eq_true rfl)) dX8_init_20 ⟨Nat.le_of_ble_eq_true rfl, Nat.le_of_ble_eq_true rfl⟩) hP hD hS hA [2] [0, 1] rfl rfl rfl (by decide) (fun u H locs h hP hD hS => ?_)
  have hP : va_P G.1 vwCl [(h0, .inr (6, [.ref q5, .null, .null])), (q5, .inr (2, [.int (nI 0), .int (nI 0), .int (nI 3), .long (lN 0), .long (lN 0), .long (lN 0), .long (lN 0), .long (lN 0)])), (q16, .inr (0, [.long (lN 0), .long (lN 0), .long (lN 0), .long (lN 0)]))] H := hP
  have hD : va_D A [(h0, .inr (6, [.ref q5, .null, .null])), (q5, .inr (2, [.int (nI 0), .int (nI 0), .int (nI 3), .long (lN 0), .long (lN 0), .long (lN 0), .long (lN 0), .long (lN 0)])), (q16, .inr (0, [.long (lN 0), .long (lN 0), .long (lN 0), .long (lN 0)]))] := hD
  refine W.widen (k := 2) (n := 12) (by omega) (by omega) ?_
  refine va_putF (D := G.1) (ci := 6) (v := .ref q16) (ty := .object "HallOfClaims$Defeats") (C := RX8) (T := TX8) (N := 3) hx hb hts ki_X8 tyX8 tyX8_ok nmX8 hown hK.1 hP hD hS 0 rfl rfl 1 (by decide) kf12 (fun _ h9 => h9) rfl hin rfl (by decide +kernel) rfl rfl (Nat.le_of_ble_eq_true rfl) dX8_init_23 (fun H locs hP hD hS => ?_)
  have hP : va_P G.1 vwCl [(h0, .inr (6, [.ref q5, .ref q16, .null])), (q5, .inr (2, [.int (nI 0), .int (nI 0), .int (nI 3), .long (lN 0), .long (lN 0), .long (lN 0), .long (lN 0), .long (lN 0)])), (q16, .inr (0, [.long (lN 0), .long (lN 0), .long (lN 0), .long (lN 0)]))] H := hP
  have hD : va_D A [(h0, .inr (6, [.ref q5, .ref q16, .null])), (q5, .inr (2, [.int (nI 0), .int (nI 0), .int (nI 3), .long (lN 0), .long (lN 0), .long (lN 0), .long (lN 0), .long (lN 0)])), (q16, .inr (0, [.long (lN 0), .long (lN 0), .long (lN 0), .long (lN 0)]))] := hD
  refine lv_aload_n hx hb dX8_init_26 rfl (lv_at hl 0 rfl) ?_
  refine va_new (ci := 7) (fs := [.int 0, .int 0, .int 0, .long 0]) (C := RX9) (T := TX9) (N := 4) hx hb hts ki_X9 tyX9 tyX9_ok hown kf13 kf14 kf15 hK.1 hP hD hS hA rfl (fun j hj => by rcases (show j = 0 ∨ j = 1 ∨ j = 2 ∨ j = 3 by omega) with rfl | rfl | rfl | rfl <;> rfl) (Nat.le_of_ble_eq_true rfl) (Nat.le_of_ble_eq_true rfl) dX8_init_27 (fun q27 H hP hD hS => ?_)
  have hP : va_P G.1 vwCl [(h0, .inr (6, [.ref q5, .ref q16, .null])), (q5, .inr (2, [.int (nI 0), .int (nI 0), .int (nI 3), .long (lN 0), .long (lN 0), .long (lN 0), .long (lN 0), .long (lN 0)])), (q16, .inr (0, [.long (lN 0), .long (lN 0), .long (lN 0), .long (lN 0)])), (q27, .inr (7, [.int 0, .int 0, .int 0, .long 0]))] H := hP
  have hD : va_D A [(h0, .inr (6, [.ref q5, .ref q16, .null])), (q5, .inr (2, [.int (nI 0), .int (nI 0), .int (nI 3), .long (lN 0), .long (lN 0), .long (lN 0), .long (lN 0), .long (lN 0)])), (q16, .inr (0, [.long (lN 0), .long (lN 0), .long (lN 0), .long (lN 0)])), (q27, .inr (7, [.int 0, .int 0, .int 0, .long 0]))] := hD
  refine W.widen (k := 3) (n := 16) (by omega) (by omega) ?_
  refine lv_dup hx hb dX8_init_30 rfl ?_
  refine hc_kvI (wr := [(h0, .inr (6, [.ref q5, .ref q16, .null])), (q5, .inr (2, [.int (nI 0), .int (nI 0), .int (nI 3), .long (lN 0), .long (lN 0), .long (lN 0), .long (lN 0), .long (lN 0)])), (q16, .inr (0, [.long (lN 0), .long (lN 0), .long (lN 0), .long (lN 0)]))]) (va_runIN (As := []) (rest := [.ref q27, .ref h0]) ⟨hx, hb, hml, hown, hts⟩ (c_X9_init l G q27 H.size) ⟨va_cnB (own := RX8) (index := 27) 0 hts gX8_init_X9_init_n27 rfl rfl rfl (hK.2 (RX8, 27, yX9_init, RX10) (by simp [hcNs])) kf15 (by decide +kernel) ⟨Nat.le_of_ble_eq_true rfl, Nat.le_of_ble_eq_true rfl⟩, rfl, kf16⟩ (hc_pS hK hP hD [3] rfl rfl) rfl rfl hl.1 rfl (lv_room (Nat.le_of_ble_eq_true rfl)) dX8_init_31 ⟨Nat.le_of_ble_eq_true rfl, Nat.le_of_ble_eq_true rfl⟩) hP hD hS hA [3] [0, 1, 2] rfl rfl rfl (by decide) (fun u H locs h hP hD hS => ?_)
  have hP : va_P G.1 vwCl [(h0, .inr (6, [.ref q5, .ref q16, .null])), (q5, .inr (2, [.int (nI 0), .int (nI 0), .int (nI 3), .long (lN 0), .long (lN 0), .long (lN 0), .long (lN 0), .long (lN 0)])), (q16, .inr (0, [.long (lN 0), .long (lN 0), .long (lN 0), .long (lN 0)])), (q27, .inr (7, [.int (nI 0), .int (nI 0), .int (nI 0), .long (lN 0)]))] H := hP
  have hD : va_D A [(h0, .inr (6, [.ref q5, .ref q16, .null])), (q5, .inr (2, [.int (nI 0), .int (nI 0), .int (nI 3), .long (lN 0), .long (lN 0), .long (lN 0), .long (lN 0), .long (lN 0)])), (q16, .inr (0, [.long (lN 0), .long (lN 0), .long (lN 0), .long (lN 0)])), (q27, .inr (7, [.int (nI 0), .int (nI 0), .int (nI 0), .long (lN 0)]))] := hD
  refine W.widen (k := 3) (n := 16) (by omega) (by omega) ?_
  refine va_putF (D := G.1) (ci := 6) (v := .ref q27) (ty := .object "HallOfClaims$Turns") (C := RX8) (T := TX8) (N := 3) hx hb hts ki_X8 tyX8 tyX8_ok nmX8 hown hK.1 hP hD hS 0 rfl rfl 2 (by decide) kf17 (fun _ h9 => h9) rfl hin rfl (by decide +kernel) rfl rfl (Nat.le_of_ble_eq_true rfl) dX8_init_34 (fun H locs hP hD hS => ?_)
  have hP : va_P G.1 vwCl [(h0, .inr (6, [.ref q5, .ref q16, .ref q27])), (q5, .inr (2, [.int (nI 0), .int (nI 0), .int (nI 3), .long (lN 0), .long (lN 0), .long (lN 0), .long (lN 0), .long (lN 0)])), (q16, .inr (0, [.long (lN 0), .long (lN 0), .long (lN 0), .long (lN 0)])), (q27, .inr (7, [.int (nI 0), .int (nI 0), .int (nI 0), .long (lN 0)]))] H := hP
  have hD : va_D A [(h0, .inr (6, [.ref q5, .ref q16, .ref q27])), (q5, .inr (2, [.int (nI 0), .int (nI 0), .int (nI 3), .long (lN 0), .long (lN 0), .long (lN 0), .long (lN 0), .long (lN 0)])), (q16, .inr (0, [.long (lN 0), .long (lN 0), .long (lN 0), .long (lN 0)])), (q27, .inr (7, [.int (nI 0), .int (nI 0), .int (nI 0), .long (lN 0)]))] := hD
  exact W.vret hx hb hr (fun t ht hW => ⟨⟨⟨q5, q16, q27⟩, rfl, trivial, ⟨by rw [ht]; exact hP, hD⟩⟩, hS.F ht⟩) hS.2.2 dX8_init_37
