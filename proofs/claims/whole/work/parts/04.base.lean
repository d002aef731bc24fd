abbrev hcG : Type := va_G × ClassId × ClassId × ClassId
abbrev hcT (G : hcG) : List (ClassId × FieldType) := [(G.2.1, .int), (G.2.2.1, .long), (G.2.2.2, .boolean)]
abbrev caI (G : hcG) (a n : Nat) (f : Nat → Int32) : Nat × va_E := (a, .inl (G.2.1, n, .inl f))
abbrev caJ (G : hcG) (a n : Nat) (f : Nat → Int64) : Nat × va_E := (a, .inl (G.2.2.1, n, .inr (.inl f)))
abbrev caZ (G : hcG) (a n : Nat) (f : Nat → Int32) : Nat × va_E := (a, .inl (G.2.2.2, n, .inl f))
abbrev ceX1 (a : Nat) (v0 : Int64) (v1 : Int64) (v2 : Int64) (v3 : Int64) : Nat × va_E := (a, .inr (0, [.long v0, .long v1, .long v2, .long v3]))
abbrev ceX2 (a : Nat) (v0 : Nat) (v1 : Nat) (v2 : Int64) : Nat × va_E := (a, .inr (1, [.ref v0, .ref v1, .long v2]))
abbrev ceX3 (a : Nat) (v0 : Int32) (v1 : Int32) (v2 : Int32) (v3 : Int64) (v4 : Int64) (v5 : Int64) (v6 : Int64) (v7 : Int64) : Nat × va_E := (a, .inr (2, [.int v0, .int v1, .int v2, .long v3, .long v4, .long v5, .long v6, .long v7]))
abbrev ceX5 (a : Nat) (v0 : Nat) (v1 : Nat) : Nat × va_E := (a, .inr (3, [.ref v0, .ref v1]))
abbrev ceX6 (a : Nat) (v0 : Nat) (v1 : Int32) : Nat × va_E := (a, .inr (4, [.ref v0, .int v1]))
abbrev ceX7 (a : Nat) (v0 : Nat) (v1 : Nat) (v2 : Nat) (v3 : Int32) (v4 : Int64) (v5 : Int64) : Nat × va_E := (a, .inr (5, [.ref v0, .ref v1, .ref v2, .int v3, .long v4, .long v5]))
abbrev ceX8 (a : Nat) (v0 : Nat) (v1 : Nat) (v2 : Nat) : Nat × va_E := (a, .inr (6, [.ref v0, .ref v1, .ref v2]))
abbrev ceX9 (a : Nat) (v0 : Int32) (v1 : Int32) (v2 : Int32) (v3 : Int64) : Nat × va_E := (a, .inr (7, [.int v0, .int v1, .int v2, .long v3]))
abbrev ceX10 (a : Nat) (v0 : Nat) (v1 : Nat) (v2 : Nat) (v3 : Nat) (v4 : Nat) (v5 : Nat) (v6 : Nat) (v7 : Nat) (v8 : Nat) (v9 : Nat) (v10 : Int32) : Nat × va_E := (a, .inr (8, [.ref v0, .ref v1, .ref v2, .ref v3, .ref v4, .ref v5, .ref v6, .ref v7, .ref v8, .ref v9, .int v10]))
abbrev ceX11 (a : Nat) (v0 : Nat) (v1 : Nat) (v2 : Nat) (v3 : Int32) (v4 : Nat) (v5 : Nat) (v6 : Int32) (v7 : Nat) (v8 : Int32) (v9 : Nat) (v10 : Nat) (v11 : Nat) (v12 : Nat) (v13 : Int32) (v14 : Int32) (v15 : Nat) (v16 : Int32) (v17 : Nat) (v18 : Nat) (v19 : Int32) (v20 : Int32) (v21 : Nat) (v22 : Nat) (v23 : Int32) : Nat × va_E := (a, .inr (9, [.ref v0, .ref v1, .ref v2, .int v3, .ref v4, .ref v5, .int v6, .ref v7, .int v8, .ref v9, .ref v10, .ref v11, .ref v12, .int v13, .int v14, .ref v15, .int v16, .ref v17, .ref v18, .int v19, .int v20, .ref v21, .ref v22, .int v23]))
def hcNs : List (String × Nat × MethodName × String) := [(RX10, 9, yX3_init, RX10), (RX10, 21, yX5_init, RX10), (RX10, 37, yX1_init, RX10), (RX10, 44, yX9_init, RX10), (RX10, 51, yX7_init, RX10), (RX10, 58, yX2_init, RX10), (RX10, 65, yX8_init, RX10), (RX5, 22, yX3_init, RX10), (RX5, 96, yX10_isKind, RX10), (RX8, 11, yX3_init, RX10), (RX8, 20, yX1_init, RX10), (RX8, 27, yX9_init, RX10)]
def hcK (G : hcG) (U : State) : Prop := va_K G.1 vwCl (hcT G) U ∧ ∀ q ∈ hcNs, va_Nw (.methodLinkNest q.1 q.2.1 q.2.2.1 q.2.2.2) U
theorem hcK.warm {G : hcG} {s U : State} (hW : s.WarmedH U.vm) (h : hcK G s) : hcK G U := ⟨va_K.moved hW.alike h.1, fun q hq => va_Nw.warmM hW (h.2 q hq)⟩
theorem hcK.isKind {G : hcG} {s : State} (h : hcK G s) : va_Nw (.methodLinkNest RX5 96 yX10_isKind RX10) s := h.2 (RX5, 96, yX10_isKind, RX10) (by simp [hcNs])
def hcPc (G : hcG) (av : List Value) (ws : va_W) (sz : Nat) : Array Value → State → Prop := va_Pc av (fun U => U.heap.size = sz ∧ va_P G.1 vwCl ws U.heap ∧ hcK G U ∧ va_D (fun _ => True) ws)
def hcB {S : Type} (G : hcG) (A : Nat → Prop) (f : S → va_W) : S → State → Prop := fun u t => va_P G.1 vwCl (f u) t.heap ∧ va_D A (f u)
theorem hcPc_blind (G : hcG) (av : List Value) (ws : va_W) (sz : Nat) : FrameBlind (hcPc G av ws sz) := fun a U g mk q => by
  obtain ⟨h1, h2, h3, h4, h5⟩ := q
  exact ⟨h1, h2, h3, ⟨va_K.moved (u := U) (U := U.calling g mk a) (Vm.Alike.refl U.vm) h4.1, fun q hq => va_Nw.same rfl rfl (h4.2 q hq)⟩, h5⟩
theorem hc_fm {ws wc : va_W} {is : List Nat} (h : is.map (fun i => ws[i]?) = wc.map some) : is.filterMap (fun i => ws[i]?) = wc := by
  have h1 : is.filterMap (fun i => ws[i]?) = (is.map (fun i => ws[i]?)).filterMap id := by rw [List.filterMap_map]; rfl
  rw [h1, h, List.filterMap_map]
  induction wc with
  | nil => rfl
  | cons a t ih => simp
theorem hc_pU {G : hcG} {s : State} {H : Heap} {A : Nat → Prop} {W1 wc : va_W} {av : List Value} (hK : hcK G s) (hP : va_P G.1 vwCl W1 H) (hD : va_D A W1) (isC : List Nat) (hC : isC.map (fun i => W1[i]?) = wc.map some) (hn : va_nd isC = true) : ∀ U : State, U.heap = H → s.WarmedH U.vm → hcPc G av wc H.size av.toArray U := fun U hU hW => ⟨rfl, by rw [hU], by rw [hU]; exact hP.sub isC (hc_fm hC), hK.warm hW, (hD.sub isC hn hC).weaken (fun _ _ _ _ => trivial)⟩
theorem hc_pV {G : hcG} {s : State} {H : Heap} {A : Nat → Prop} {W1 wc : va_W} {b : Nat} {As : List Value} (hK : hcK G s) (hP : va_P G.1 vwCl W1 H) (hD : va_D A W1) (isC : List Nat) (hC : isC.map (fun i => W1[i]?) = wc.map some) (hn : va_nd isC = true) {ci : Nat} {q : vw_C} {fs : List Value} (q0 : Nat) (hc : vwCl[ci]? = some q) (he : W1[q0]? = some (b, .inr (ci, fs))) : PreV s H q.1 b (hcPc G (.ref b :: As) wc H.size) As :=
  ⟨hcPc_blind _ _ _ _, va_recv hK.1 hP hc he, hc_pU hK hP hD isC hC hn⟩
theorem hc_pS {G : hcG} {s : State} {H : Heap} {A : Nat → Prop} {W1 wc : va_W} {As : List Value} (hK : hcK G s) (hP : va_P G.1 vwCl W1 H) (hD : va_D A W1) (isC : List Nat) (hC : isC.map (fun i => W1[i]?) = wc.map some) (hn : va_nd isC = true) : PreS s H (hcPc G As wc H.size) As :=
  ⟨hcPc_blind _ _ _ _, hc_pU hK hP hD isC hC hn⟩
section HCC
variable {p : Program} {l : Launch} {e : Env} {R : Room} {s : State} {m : MethodId} {args : Array Value} {below : List Frame} {meth : Method} {c : Code} {H : Heap} {locs : List Loc} {cells slots : Nat} {Q : State → Prop}
variable {pc : Nat} {ls : Array Slot} {rest st0 : List Value} {a : Array Value} {A : Nat → Prop} {H0 : Heap}
theorem hc_ki {S : Type} {G : hcG} {post : Int32 → S → Prop} {f : S → va_W} {W1 wc wr : va_W} (hr : va_Run p l e R s m args below meth c H locs cells slots 0 0 (F0 m pc ls st0) rest (va_Qi post (hcB G (va_A wc H.size) f) (va_A wc H.size) a) (va_A wc H.size)) (hP : va_P G.1 vwCl W1 H) (hD : va_D A W1) (hS : va_S A H0 H locs) (hA : ∀ q : Nat, H0.size ≤ q → A q) (isC isR : List Nat) (hC : isC.map (fun i => W1[i]?) = wc.map some) (hR : isR.map (fun i => W1[i]?) = wr.map some) (hn : va_nd isR = true) (hdis : ∀ i ∈ isR, i ∉ isC)
    (kk : ∀ (r : Int32) (u : S) (H1 : Heap) (locs1 : List Loc), post r u → va_P G.1 vwCl (wr ++ f u) H1 → va_D A (wr ++ f u) → va_S A H0 H1 locs1 → W p l e R s m args below meth c H1 locs1 cells slots Q (F0 m (pc + 3) ls (.int r :: rest))) : W p l e R s m args below meth c H locs cells slots Q (F0 m pc ls st0) := by
  have hF := va_free hD hS hA isC hC
  refine va_calli hr hS (fun q _ h => hF q h) hF (fun r u t H1 locs1 ht hvm hp hB hz hk hS1 => ?_)
  obtain ⟨hP1, hD1⟩ := hB
  rw [ht] at hP1
  obtain ⟨hP2, hD2⟩ := va_join hP hD isC isR hC hR hn hdis hk hF hP1 hD1
  exact kk r u H1 locs1 hp hP2 hD2 hS1
theorem hc_kl {S : Type} {G : hcG} {post : Int64 → S → Prop} {f : S → va_W} {W1 wc wr : va_W} (hr : va_Run p l e R s m args below meth c H locs cells slots 0 0 (F0 m pc ls st0) rest (va_Ql post (hcB G (va_A wc H.size) f) (va_A wc H.size) a) (va_A wc H.size)) (hP : va_P G.1 vwCl W1 H) (hD : va_D A W1) (hS : va_S A H0 H locs) (hA : ∀ q : Nat, H0.size ≤ q → A q) (isC isR : List Nat) (hC : isC.map (fun i => W1[i]?) = wc.map some) (hR : isR.map (fun i => W1[i]?) = wr.map some) (hn : va_nd isR = true) (hdis : ∀ i ∈ isR, i ∉ isC)
    (kk : ∀ (r : Int64) (u : S) (H1 : Heap) (locs1 : List Loc), post r u → va_P G.1 vwCl (wr ++ f u) H1 → va_D A (wr ++ f u) → va_S A H0 H1 locs1 → W p l e R s m args below meth c H1 locs1 cells slots Q (F0 m (pc + 3) ls (.long r :: rest))) : W p l e R s m args below meth c H locs cells slots Q (F0 m pc ls st0) := by
  have hF := va_free hD hS hA isC hC
  refine va_calll hr hS (fun q _ h => hF q h) hF (fun r u t H1 locs1 ht hvm hp hB hz hk hS1 => ?_)
  obtain ⟨hP1, hD1⟩ := hB
  rw [ht] at hP1
  obtain ⟨hP2, hD2⟩ := va_join hP hD isC isR hC hR hn hdis hk hF hP1 hD1
  exact kk r u H1 locs1 hp hP2 hD2 hS1
theorem hc_kv {S : Type} {G : hcG} {post : S → Prop} {f : S → va_W} {W1 wc wr : va_W} (hr : va_Run p l e R s m args below meth c H locs cells slots 0 0 (F0 m pc ls st0) rest (va_Qv post (hcB G (va_A wc H.size) f) (va_A wc H.size) a) (va_A wc H.size)) (hP : va_P G.1 vwCl W1 H) (hD : va_D A W1) (hS : va_S A H0 H locs) (hA : ∀ q : Nat, H0.size ≤ q → A q) (isC isR : List Nat) (hC : isC.map (fun i => W1[i]?) = wc.map some) (hR : isR.map (fun i => W1[i]?) = wr.map some) (hn : va_nd isR = true) (hdis : ∀ i ∈ isR, i ∉ isC)
    (kk : ∀ (u : S) (H1 : Heap) (locs1 : List Loc), post u → va_P G.1 vwCl (wr ++ f u) H1 → va_D A (wr ++ f u) → va_S A H0 H1 locs1 → W p l e R s m args below meth c H1 locs1 cells slots Q (F0 m (pc + 3) ls (rest))) : W p l e R s m args below meth c H locs cells slots Q (F0 m pc ls st0) := by
  have hF := va_free hD hS hA isC hC
  refine va_callv hr hS (fun q _ h => hF q h) hF (fun u t H1 locs1 ht hvm hp hB hz hk hS1 => ?_)
  obtain ⟨hP1, hD1⟩ := hB
  rw [ht] at hP1
  obtain ⟨hP2, hD2⟩ := va_join hP hD isC isR hC hR hn hdis hk hF hP1 hD1
  exact kk u H1 locs1 hp hP2 hD2 hS1
end HCC
def hcUshr (x y : Int32) : Int32 := (x.toUInt32 >>> (y.toUInt32 &&& Int32.toUInt32 31)).toInt32
def hcLushr (x : Int64) (y : Int32) : Int64 := (x.toUInt64 >>> (y.toInt64.toUInt64 &&& Int64.toUInt64 63)).toInt64
def hcLshl (x : Int64) (y : Int32) : Int64 := x <<< (y.toInt64 &&& 63)
def hcZ (x : Int32) : Prop := x = nI 0 ∨ x = nI 1
theorem hc_nar {x : Int32} (h : hcZ x) : narrow .boolean (.int x) = .int x := by rcases h with rfl | rfl <;> rfl
theorem hc_fit {x : Int32} (h : hcZ x) : fits .boolean (.int x) = true := by rcases h with rfl | rfl <;> decide +kernel
theorem hc_toInt_in {x : Int32} {n : Nat} (h : ¬ (x.toInt < 0 ∨ (n : Int) < x.toInt)) : ∃ k : Nat, k ≤ n ∧ x.toInt = (k : Int) := ⟨x.toInt.toNat, by omega, by omega⟩
theorem hc_ofInt {x : Int32} {k : Nat} (hk : k < 1000) (h : x.toInt = (k : Int)) : x = nI k := Int32.toInt_inj.mp (by rw [h, nI_toInt (by omega)])
theorem hc_sw2 (x : Int32) : (x.toInt < 0 ∨ 2 < x.toInt) ∨ x = nI 0 ∨ x = nI 1 ∨ x = nI 2 := by
  by_cases h : x.toInt < 0 ∨ (2 : Int) < x.toInt
  · exact Or.inl h
  · have hx : x.toInt = (0 : Nat) ∨ x.toInt = (1 : Nat) ∨ x.toInt = (2 : Nat) := by omega
    refine Or.inr ?_
    rcases hx with h | h | h
    · exact Or.inl (hc_ofInt (by decide) h)
    · exact Or.inr (Or.inl (hc_ofInt (by decide) h))
    · exact Or.inr (Or.inr ((hc_ofInt (by decide) h)))
theorem hc_sw3 (x : Int32) : (x.toInt < 0 ∨ 3 < x.toInt) ∨ x = nI 0 ∨ x = nI 1 ∨ x = nI 2 ∨ x = nI 3 := by
  by_cases h : x.toInt < 0 ∨ (3 : Int) < x.toInt
  · exact Or.inl h
  · have hx : x.toInt = (0 : Nat) ∨ x.toInt = (1 : Nat) ∨ x.toInt = (2 : Nat) ∨ x.toInt = (3 : Nat) := by omega
    refine Or.inr ?_
    rcases hx with h | h | h | h
    · exact Or.inl (hc_ofInt (by decide) h)
    · exact Or.inr (Or.inl (hc_ofInt (by decide) h))
    · exact Or.inr (Or.inr (Or.inl (hc_ofInt (by decide) h)))
    · exact Or.inr (Or.inr (Or.inr ((hc_ofInt (by decide) h))))
theorem hc_sw5 (x : Int32) : (x.toInt < 0 ∨ 5 < x.toInt) ∨ x = nI 0 ∨ x = nI 1 ∨ x = nI 2 ∨ x = nI 3 ∨ x = nI 4 ∨ x = nI 5 := by
  by_cases h : x.toInt < 0 ∨ (5 : Int) < x.toInt
  · exact Or.inl h
  · have hx : x.toInt = (0 : Nat) ∨ x.toInt = (1 : Nat) ∨ x.toInt = (2 : Nat) ∨ x.toInt = (3 : Nat) ∨ x.toInt = (4 : Nat) ∨ x.toInt = (5 : Nat) := by omega
    refine Or.inr ?_
    rcases hx with h | h | h | h | h | h
    · exact Or.inl (hc_ofInt (by decide) h)
    · exact Or.inr (Or.inl (hc_ofInt (by decide) h))
    · exact Or.inr (Or.inr (Or.inl (hc_ofInt (by decide) h)))
    · exact Or.inr (Or.inr (Or.inr (Or.inl (hc_ofInt (by decide) h))))
    · exact Or.inr (Or.inr (Or.inr (Or.inr (Or.inl (hc_ofInt (by decide) h)))))
    · exact Or.inr (Or.inr (Or.inr (Or.inr (Or.inr ((hc_ofInt (by decide) h))))))
theorem hc_sw6 (x : Int32) : (x.toInt < 0 ∨ 6 < x.toInt) ∨ x = nI 0 ∨ x = nI 1 ∨ x = nI 2 ∨ x = nI 3 ∨ x = nI 4 ∨ x = nI 5 ∨ x = nI 6 := by
  by_cases h : x.toInt < 0 ∨ (6 : Int) < x.toInt
  · exact Or.inl h
  · have hx : x.toInt = (0 : Nat) ∨ x.toInt = (1 : Nat) ∨ x.toInt = (2 : Nat) ∨ x.toInt = (3 : Nat) ∨ x.toInt = (4 : Nat) ∨ x.toInt = (5 : Nat) ∨ x.toInt = (6 : Nat) := by omega
    refine Or.inr ?_
    rcases hx with h | h | h | h | h | h | h
    · exact Or.inl (hc_ofInt (by decide) h)
    · exact Or.inr (Or.inl (hc_ofInt (by decide) h))
    · exact Or.inr (Or.inr (Or.inl (hc_ofInt (by decide) h)))
    · exact Or.inr (Or.inr (Or.inr (Or.inl (hc_ofInt (by decide) h))))
    · exact Or.inr (Or.inr (Or.inr (Or.inr (Or.inl (hc_ofInt (by decide) h)))))
    · exact Or.inr (Or.inr (Or.inr (Or.inr (Or.inr (Or.inl (hc_ofInt (by decide) h))))))
    · exact Or.inr (Or.inr (Or.inr (Or.inr (Or.inr (Or.inr ((hc_ofInt (by decide) h)))))))
theorem hc_sw7 (x : Int32) : (x.toInt < 0 ∨ 7 < x.toInt) ∨ x = nI 0 ∨ x = nI 1 ∨ x = nI 2 ∨ x = nI 3 ∨ x = nI 4 ∨ x = nI 5 ∨ x = nI 6 ∨ x = nI 7 := by
  by_cases h : x.toInt < 0 ∨ (7 : Int) < x.toInt
  · exact Or.inl h
  · have hx : x.toInt = (0 : Nat) ∨ x.toInt = (1 : Nat) ∨ x.toInt = (2 : Nat) ∨ x.toInt = (3 : Nat) ∨ x.toInt = (4 : Nat) ∨ x.toInt = (5 : Nat) ∨ x.toInt = (6 : Nat) ∨ x.toInt = (7 : Nat) := by omega
    refine Or.inr ?_
    rcases hx with h | h | h | h | h | h | h | h
    · exact Or.inl (hc_ofInt (by decide) h)
    · exact Or.inr (Or.inl (hc_ofInt (by decide) h))
    · exact Or.inr (Or.inr (Or.inl (hc_ofInt (by decide) h)))
    · exact Or.inr (Or.inr (Or.inr (Or.inl (hc_ofInt (by decide) h))))
    · exact Or.inr (Or.inr (Or.inr (Or.inr (Or.inl (hc_ofInt (by decide) h)))))
    · exact Or.inr (Or.inr (Or.inr (Or.inr (Or.inr (Or.inl (hc_ofInt (by decide) h))))))
    · exact Or.inr (Or.inr (Or.inr (Or.inr (Or.inr (Or.inr (Or.inl (hc_ofInt (by decide) h)))))))
    · exact Or.inr (Or.inr (Or.inr (Or.inr (Or.inr (Or.inr (Or.inr ((hc_ofInt (by decide) h))))))))
theorem hc_sw8 (x : Int32) : (x.toInt < 0 ∨ 8 < x.toInt) ∨ x = nI 0 ∨ x = nI 1 ∨ x = nI 2 ∨ x = nI 3 ∨ x = nI 4 ∨ x = nI 5 ∨ x = nI 6 ∨ x = nI 7 ∨ x = nI 8 := by
  by_cases h : x.toInt < 0 ∨ (8 : Int) < x.toInt
  · exact Or.inl h
  · have hx : x.toInt = (0 : Nat) ∨ x.toInt = (1 : Nat) ∨ x.toInt = (2 : Nat) ∨ x.toInt = (3 : Nat) ∨ x.toInt = (4 : Nat) ∨ x.toInt = (5 : Nat) ∨ x.toInt = (6 : Nat) ∨ x.toInt = (7 : Nat) ∨ x.toInt = (8 : Nat) := by omega
    refine Or.inr ?_
    rcases hx with h | h | h | h | h | h | h | h | h
    · exact Or.inl (hc_ofInt (by decide) h)
    · exact Or.inr (Or.inl (hc_ofInt (by decide) h))
    · exact Or.inr (Or.inr (Or.inl (hc_ofInt (by decide) h)))
    · exact Or.inr (Or.inr (Or.inr (Or.inl (hc_ofInt (by decide) h))))
    · exact Or.inr (Or.inr (Or.inr (Or.inr (Or.inl (hc_ofInt (by decide) h)))))
    · exact Or.inr (Or.inr (Or.inr (Or.inr (Or.inr (Or.inl (hc_ofInt (by decide) h))))))
    · exact Or.inr (Or.inr (Or.inr (Or.inr (Or.inr (Or.inr (Or.inl (hc_ofInt (by decide) h)))))))
    · exact Or.inr (Or.inr (Or.inr (Or.inr (Or.inr (Or.inr (Or.inr (Or.inl (hc_ofInt (by decide) h))))))))
    · exact Or.inr (Or.inr (Or.inr (Or.inr (Or.inr (Or.inr (Or.inr (Or.inr ((hc_ofInt (by decide) h)))))))))
theorem hc_sw9 (x : Int32) : (x.toInt < 0 ∨ 9 < x.toInt) ∨ x = nI 0 ∨ x = nI 1 ∨ x = nI 2 ∨ x = nI 3 ∨ x = nI 4 ∨ x = nI 5 ∨ x = nI 6 ∨ x = nI 7 ∨ x = nI 8 ∨ x = nI 9 := by
  by_cases h : x.toInt < 0 ∨ (9 : Int) < x.toInt
  · exact Or.inl h
  · have hx : x.toInt = (0 : Nat) ∨ x.toInt = (1 : Nat) ∨ x.toInt = (2 : Nat) ∨ x.toInt = (3 : Nat) ∨ x.toInt = (4 : Nat) ∨ x.toInt = (5 : Nat) ∨ x.toInt = (6 : Nat) ∨ x.toInt = (7 : Nat) ∨ x.toInt = (8 : Nat) ∨ x.toInt = (9 : Nat) := by omega
    refine Or.inr ?_
    rcases hx with h | h | h | h | h | h | h | h | h | h
    · exact Or.inl (hc_ofInt (by decide) h)
    · exact Or.inr (Or.inl (hc_ofInt (by decide) h))
    · exact Or.inr (Or.inr (Or.inl (hc_ofInt (by decide) h)))
    · exact Or.inr (Or.inr (Or.inr (Or.inl (hc_ofInt (by decide) h))))
    · exact Or.inr (Or.inr (Or.inr (Or.inr (Or.inl (hc_ofInt (by decide) h)))))
    · exact Or.inr (Or.inr (Or.inr (Or.inr (Or.inr (Or.inl (hc_ofInt (by decide) h))))))
    · exact Or.inr (Or.inr (Or.inr (Or.inr (Or.inr (Or.inr (Or.inl (hc_ofInt (by decide) h)))))))
    · exact Or.inr (Or.inr (Or.inr (Or.inr (Or.inr (Or.inr (Or.inr (Or.inl (hc_ofInt (by decide) h))))))))
    · exact Or.inr (Or.inr (Or.inr (Or.inr (Or.inr (Or.inr (Or.inr (Or.inr (Or.inl (hc_ofInt (by decide) h)))))))))
    · exact Or.inr (Or.inr (Or.inr (Or.inr (Or.inr (Or.inr (Or.inr (Or.inr (Or.inr ((hc_ofInt (by decide) h))))))))))
theorem hc_sw28 (x : Int32) : (x.toInt < 0 ∨ 28 < x.toInt) ∨ x = nI 0 ∨ x = nI 1 ∨ x = nI 2 ∨ x = nI 3 ∨ x = nI 4 ∨ x = nI 5 ∨ x = nI 6 ∨ x = nI 7 ∨ x = nI 8 ∨ x = nI 9 ∨ x = nI 10 ∨ x = nI 11 ∨ x = nI 12 ∨ x = nI 13 ∨ x = nI 14 ∨ x = nI 15 ∨ x = nI 16 ∨ x = nI 17 ∨ x = nI 18 ∨ x = nI 19 ∨ x = nI 20 ∨ x = nI 21 ∨ x = nI 22 ∨ x = nI 23 ∨ x = nI 24 ∨ x = nI 25 ∨ x = nI 26 ∨ x = nI 27 ∨ x = nI 28 := by
  by_cases h : x.toInt < 0 ∨ (28 : Int) < x.toInt
  · exact Or.inl h
  · have hx : x.toInt = (0 : Nat) ∨ x.toInt = (1 : Nat) ∨ x.toInt = (2 : Nat) ∨ x.toInt = (3 : Nat) ∨ x.toInt = (4 : Nat) ∨ x.toInt = (5 : Nat) ∨ x.toInt = (6 : Nat) ∨ x.toInt = (7 : Nat) ∨ x.toInt = (8 : Nat) ∨ x.toInt = (9 : Nat) ∨ x.toInt = (10 : Nat) ∨ x.toInt = (11 : Nat) ∨ x.toInt = (12 : Nat) ∨ x.toInt = (13 : Nat) ∨ x.toInt = (14 : Nat) ∨ x.toInt = (15 : Nat) ∨ x.toInt = (16 : Nat) ∨ x.toInt = (17 : Nat) ∨ x.toInt = (18 : Nat) ∨ x.toInt = (19 : Nat) ∨ x.toInt = (20 : Nat) ∨ x.toInt = (21 : Nat) ∨ x.toInt = (22 : Nat) ∨ x.toInt = (23 : Nat) ∨ x.toInt = (24 : Nat) ∨ x.toInt = (25 : Nat) ∨ x.toInt = (26 : Nat) ∨ x.toInt = (27 : Nat) ∨ x.toInt = (28 : Nat) := by omega
    refine Or.inr ?_
    rcases hx with h | h | h | h | h | h | h | h | h | h | h | h | h | h | h | h | h | h | h | h | h | h | h | h | h | h | h | h | h
    · exact Or.inl (hc_ofInt (by decide) h)
    · exact Or.inr (Or.inl (hc_ofInt (by decide) h))
    · exact Or.inr (Or.inr (Or.inl (hc_ofInt (by decide) h)))
    · exact Or.inr (Or.inr (Or.inr (Or.inl (hc_ofInt (by decide) h))))
    · exact Or.inr (Or.inr (Or.inr (Or.inr (Or.inl (hc_ofInt (by decide) h)))))
    · exact Or.inr (Or.inr (Or.inr (Or.inr (Or.inr (Or.inl (hc_ofInt (by decide) h))))))
    · exact Or.inr (Or.inr (Or.inr (Or.inr (Or.inr (Or.inr (Or.inl (hc_ofInt (by decide) h)))))))
    · exact Or.inr (Or.inr (Or.inr (Or.inr (Or.inr (Or.inr (Or.inr (Or.inl (hc_ofInt (by decide) h))))))))
    · exact Or.inr (Or.inr (Or.inr (Or.inr (Or.inr (Or.inr (Or.inr (Or.inr (Or.inl (hc_ofInt (by decide) h)))))))))
    · exact Or.inr (Or.inr (Or.inr (Or.inr (Or.inr (Or.inr (Or.inr (Or.inr (Or.inr (Or.inl (hc_ofInt (by decide) h))))))))))
    · exact Or.inr (Or.inr (Or.inr (Or.inr (Or.inr (Or.inr (Or.inr (Or.inr (Or.inr (Or.inr (Or.inl (hc_ofInt (by decide) h)))))))))))
    · exact Or.inr (Or.inr (Or.inr (Or.inr (Or.inr (Or.inr (Or.inr (Or.inr (Or.inr (Or.inr (Or.inr (Or.inl (hc_ofInt (by decide) h))))))))))))
    · exact Or.inr (Or.inr (Or.inr (Or.inr (Or.inr (Or.inr (Or.inr (Or.inr (Or.inr (Or.inr (Or.inr (Or.inr (Or.inl (hc_ofInt (by decide) h)))))))))))))
    · exact Or.inr (Or.inr (Or.inr (Or.inr (Or.inr (Or.inr (Or.inr (Or.inr (Or.inr (Or.inr (Or.inr (Or.inr (Or.inr (Or.inl (hc_ofInt (by decide) h))))))))))))))
    · exact Or.inr (Or.inr (Or.inr (Or.inr (Or.inr (Or.inr (Or.inr (Or.inr (Or.inr (Or.inr (Or.inr (Or.inr (Or.inr (Or.inr (Or.inl (hc_ofInt (by decide) h)))))))))))))))
    · exact Or.inr (Or.inr (Or.inr (Or.inr (Or.inr (Or.inr (Or.inr (Or.inr (Or.inr (Or.inr (Or.inr (Or.inr (Or.inr (Or.inr (Or.inr (Or.inl (hc_ofInt (by decide) h))))))))))))))))
    · exact Or.inr (Or.inr (Or.inr (Or.inr (Or.inr (Or.inr (Or.inr (Or.inr (Or.inr (Or.inr (Or.inr (Or.inr (Or.inr (Or.inr (Or.inr (Or.inr (Or.inl (hc_ofInt (by decide) h)))))))))))))))))
    · exact Or.inr (Or.inr (Or.inr (Or.inr (Or.inr (Or.inr (Or.inr (Or.inr (Or.inr (Or.inr (Or.inr (Or.inr (Or.inr (Or.inr (Or.inr (Or.inr (Or.inr (Or.inl (hc_ofInt (by decide) h))))))))))))))))))
    · exact Or.inr (Or.inr (Or.inr (Or.inr (Or.inr (Or.inr (Or.inr (Or.inr (Or.inr (Or.inr (Or.inr (Or.inr (Or.inr (Or.inr (Or.inr (Or.inr (Or.inr (Or.inr (Or.inl (hc_ofInt (by decide) h)))))))))))))))))))
    · exact Or.inr (Or.inr (Or.inr (Or.inr (Or.inr (Or.inr (Or.inr (Or.inr (Or.inr (Or.inr (Or.inr (Or.inr (Or.inr (Or.inr (Or.inr (Or.inr (Or.inr (Or.inr (Or.inr (Or.inl (hc_ofInt (by decide) h))))))))))))))))))))
    · exact Or.inr (Or.inr (Or.inr (Or.inr (Or.inr (Or.inr (Or.inr (Or.inr (Or.inr (Or.inr (Or.inr (Or.inr (Or.inr (Or.inr (Or.inr (Or.inr (Or.inr (Or.inr (Or.inr (Or.inr (Or.inl (hc_ofInt (by decide) h)))))))))))))))))))))
    · exact Or.inr (Or.inr (Or.inr (Or.inr (Or.inr (Or.inr (Or.inr (Or.inr (Or.inr (Or.inr (Or.inr (Or.inr (Or.inr (Or.inr (Or.inr (Or.inr (Or.inr (Or.inr (Or.inr (Or.inr (Or.inr (Or.inl (hc_ofInt (by decide) h))))))))))))))))))))))
    · exact Or.inr (Or.inr (Or.inr (Or.inr (Or.inr (Or.inr (Or.inr (Or.inr (Or.inr (Or.inr (Or.inr (Or.inr (Or.inr (Or.inr (Or.inr (Or.inr (Or.inr (Or.inr (Or.inr (Or.inr (Or.inr (Or.inr (Or.inl (hc_ofInt (by decide) h)))))))))))))))))))))))
    · exact Or.inr (Or.inr (Or.inr (Or.inr (Or.inr (Or.inr (Or.inr (Or.inr (Or.inr (Or.inr (Or.inr (Or.inr (Or.inr (Or.inr (Or.inr (Or.inr (Or.inr (Or.inr (Or.inr (Or.inr (Or.inr (Or.inr (Or.inr (Or.inl (hc_ofInt (by decide) h))))))))))))))))))))))))
    · exact Or.inr (Or.inr (Or.inr (Or.inr (Or.inr (Or.inr (Or.inr (Or.inr (Or.inr (Or.inr (Or.inr (Or.inr (Or.inr (Or.inr (Or.inr (Or.inr (Or.inr (Or.inr (Or.inr (Or.inr (Or.inr (Or.inr (Or.inr (Or.inr (Or.inl (hc_ofInt (by decide) h)))))))))))))))))))))))))
    · exact Or.inr (Or.inr (Or.inr (Or.inr (Or.inr (Or.inr (Or.inr (Or.inr (Or.inr (Or.inr (Or.inr (Or.inr (Or.inr (Or.inr (Or.inr (Or.inr (Or.inr (Or.inr (Or.inr (Or.inr (Or.inr (Or.inr (Or.inr (Or.inr (Or.inr (Or.inl (hc_ofInt (by decide) h))))))))))))))))))))))))))
    · exact Or.inr (Or.inr (Or.inr (Or.inr (Or.inr (Or.inr (Or.inr (Or.inr (Or.inr (Or.inr (Or.inr (Or.inr (Or.inr (Or.inr (Or.inr (Or.inr (Or.inr (Or.inr (Or.inr (Or.inr (Or.inr (Or.inr (Or.inr (Or.inr (Or.inr (Or.inr (Or.inl (hc_ofInt (by decide) h)))))))))))))))))))))))))))
    · exact Or.inr (Or.inr (Or.inr (Or.inr (Or.inr (Or.inr (Or.inr (Or.inr (Or.inr (Or.inr (Or.inr (Or.inr (Or.inr (Or.inr (Or.inr (Or.inr (Or.inr (Or.inr (Or.inr (Or.inr (Or.inr (Or.inr (Or.inr (Or.inr (Or.inr (Or.inr (Or.inr (Or.inl (hc_ofInt (by decide) h))))))))))))))))))))))))))))
    · exact Or.inr (Or.inr (Or.inr (Or.inr (Or.inr (Or.inr (Or.inr (Or.inr (Or.inr (Or.inr (Or.inr (Or.inr (Or.inr (Or.inr (Or.inr (Or.inr (Or.inr (Or.inr (Or.inr (Or.inr (Or.inr (Or.inr (Or.inr (Or.inr (Or.inr (Or.inr (Or.inr (Or.inr ((hc_ofInt (by decide) h)))))))))))))))))))))))))))))
theorem kb_m9 : (Int8.ofInt (-9)).toInt32 = (-9 : Int32) := by decide +kernel
theorem kb_m6 : (Int8.ofInt (-6)).toInt32 = (-6 : Int32) := by decide +kernel
theorem kb_m4 : (Int8.ofInt (-4)).toInt32 = (-4 : Int32) := by decide +kernel
theorem kb_m3 : (Int8.ofInt (-3)).toInt32 = (-3 : Int32) := by decide +kernel
theorem kb_m2 : (Int8.ofInt (-2)).toInt32 = (-2 : Int32) := by decide +kernel
theorem kb_6 : (Int8.ofInt (6)).toInt32 = nI 6 := by decide +kernel
theorem kb_7 : (Int8.ofInt (7)).toInt32 = nI 7 := by decide +kernel
theorem kb_8 : (Int8.ofInt (8)).toInt32 = nI 8 := by decide +kernel
theorem kb_9 : (Int8.ofInt (9)).toInt32 = nI 9 := by decide +kernel
theorem kb_10 : (Int8.ofInt (10)).toInt32 = nI 10 := by decide +kernel
theorem kb_12 : (Int8.ofInt (12)).toInt32 = nI 12 := by decide +kernel
theorem kb_16 : (Int8.ofInt (16)).toInt32 = nI 16 := by decide +kernel
theorem kb_20 : (Int8.ofInt (20)).toInt32 = nI 20 := by decide +kernel
theorem kb_24 : (Int8.ofInt (24)).toInt32 = nI 24 := by decide +kernel
theorem kb_31 : (Int8.ofInt (31)).toInt32 = nI 31 := by decide +kernel
theorem kb_32 : (Int8.ofInt (32)).toInt32 = nI 32 := by decide +kernel
theorem kb_33 : (Int8.ofInt (33)).toInt32 = nI 33 := by decide +kernel
theorem kb_40 : (Int8.ofInt (40)).toInt32 = nI 40 := by decide +kernel
theorem kb_41 : (Int8.ofInt (41)).toInt32 = nI 41 := by decide +kernel
theorem kb_42 : (Int8.ofInt (42)).toInt32 = nI 42 := by decide +kernel
theorem kb_43 : (Int8.ofInt (43)).toInt32 = nI 43 := by decide +kernel
theorem kb_48 : (Int8.ofInt (48)).toInt32 = nI 48 := by decide +kernel
theorem kb_57 : (Int8.ofInt (57)).toInt32 = nI 57 := by decide +kernel
theorem kb_58 : (Int8.ofInt (58)).toInt32 = nI 58 := by decide +kernel
theorem kb_59 : (Int8.ofInt (59)).toInt32 = nI 59 := by decide +kernel
theorem kb_62 : (Int8.ofInt (62)).toInt32 = nI 62 := by decide +kernel
theorem kb_63 : (Int8.ofInt (63)).toInt32 = nI 63 := by decide +kernel
theorem kb_96 : (Int8.ofInt (96)).toInt32 = nI 96 := by decide +kernel
theorem kb_97 : (Int8.ofInt (97)).toInt32 = nI 97 := by decide +kernel
theorem kb_100 : (Int8.ofInt (100)).toInt32 = nI 100 := by decide +kernel
theorem kb_109 : (Int8.ofInt (109)).toInt32 = nI 109 := by decide +kernel
theorem kb_122 : (Int8.ofInt (122)).toInt32 = nI 122 := by decide +kernel
theorem kb_127 : (Int8.ofInt (127)).toInt32 = nI 127 := by decide +kernel
theorem kc_m1 : Int32.ofInt (-1) = (-1 : Int32) := by decide +kernel
theorem kc_0 : Int32.ofInt (0) = nI 0 := by decide +kernel
theorem kc_1 : Int32.ofInt (1) = nI 1 := by decide +kernel
theorem kc_2 : Int32.ofInt (2) = nI 2 := by decide +kernel
theorem kc_3 : Int32.ofInt (3) = nI 3 := by decide +kernel
theorem kc_4 : Int32.ofInt (4) = nI 4 := by decide +kernel
theorem kc_5 : Int32.ofInt (5) = nI 5 := by decide +kernel
theorem kl_0 : Int64.ofNat (((0 : Fin 2) : Nat)) = lN 0 := by decide +kernel
theorem kl_1 : Int64.ofNat (((1 : Fin 2) : Nat)) = lN 1 := by decide +kernel
theorem ks_m2000 : (Int16.ofInt (-2000)).toInt32 = (-2000 : Int32) := by decide +kernel
theorem ks_m1000 : (Int16.ofInt (-1000)).toInt32 = (-1000 : Int32) := by decide +kernel
theorem ks_255 : (Int16.ofInt (255)).toInt32 = nI 255 := by decide +kernel
theorem ks_256 : (Int16.ofInt (256)).toInt32 = nI 256 := by decide +kernel
theorem ks_2048 : (Int16.ofInt (2048)).toInt32 = nI 2048 := by decide +kernel
theorem hc_ne_nI2 : ¬ nI 2 = 0 := by decide +kernel
theorem hc_ne_nI256 : ¬ nI 256 = 0 := by decide +kernel
theorem hc_ne_nI4 : ¬ nI 4 = 0 := by decide +kernel
