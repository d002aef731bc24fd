/-! halls that are like the hall but for a little -/
def HC (h : Nat → Nat) (sz hr md : Int32) (ca fi vo at_ su : Int64) : Prop := sz = nI (h 42) ∧ hr = nI (h 40) ∧ md = nI (h 41) ∧ ca = pL (fun c => h c) ∧ fi = pL (fun c => h (8 + c)) ∧ vo = pL (fun c => h (16 + c)) ∧ at_ = pL (fun c => h (24 + c)) ∧ su = pL (fun c => h (32 + c))
theorem hv.set_at {h : Nat → Nat} (H : hv h) {a v : Nat} (ha : a < h 42) (hv' : v < 2 ^ (h 42)) (hz : v.testBit a = false) : hv (upN h (24 + a) v) := by
  obtain ⟨h1, h2, h3, h4⟩ := H
  have e40 : upN h (24 + a) v 40 = h 40 := upN_n _ (by omega)
  have e41 : upN h (24 + a) v 41 = h 41 := upN_n _ (by omega)
  have e42 : upN h (24 + a) v 42 = h 42 := upN_n _ (by omega)
  refine ⟨by rw [e42]; exact h1, by rw [e41]; exact h2, by rw [e40, e42]; exact h3, fun c hc => ?_⟩
  have k0 : upN h (24 + a) v c = h c := upN_n _ (by omega)
  have k1 : upN h (24 + a) v (8 + c) = h (8 + c) := upN_n _ (by omega)
  have k2 : upN h (24 + a) v (16 + c) = h (16 + c) := upN_n _ (by omega)
  have k4 : upN h (24 + a) v (32 + c) = h (32 + c) := upN_n _ (by omega)
  obtain ⟨q1, q2, q3, q4⟩ := h4 c hc
  rw [k0, k1, k2, k4, e42]
  by_cases e : c = a
  · subst e
    rw [upN_s]
    exact ⟨q1, ⟨hv', q2.2⟩, hz, fun q => absurd q (by omega)⟩
  · rw [upN_n _ (show 24 + c ≠ 24 + a by omega)]
    exact ⟨q1, q2, q3, q4⟩
theorem hv.set_hd {h : Nat → Nat} (H : hv h) {x : Nat} (hx : x < 2 ^ (h 42)) : hv (upN h 40 x) := by
  obtain ⟨h1, h2, h3, h4⟩ := H
  have e41 : upN h 40 x 41 = h 41 := upN_n _ (by omega)
  have e42 : upN h 40 x 42 = h 42 := upN_n _ (by omega)
  refine ⟨by rw [e42]; exact h1, by rw [e41]; exact h2, by rw [upN_s, e42]; exact hx, fun c hc => ?_⟩
  rw [upN_n (j := c) _ (by omega), upN_n (j := 8 + c) _ (by omega), upN_n (j := 16 + c) _ (by omega), upN_n (j := 24 + c) _ (by omega), upN_n (j := 32 + c) _ (by omega), e42]
  exact h4 c hc
theorem hv.set_kd {h : Nat → Nat} (H : hv h) {a v : Nat} (ha : a < h 42) (hv' : v ≤ 5) : hv (upN h a v) := by
  obtain ⟨h1, h2, h3, h4⟩ := H
  have e40 : upN h a v 40 = h 40 := upN_n _ (by omega)
  have e41 : upN h a v 41 = h 41 := upN_n _ (by omega)
  have e42 : upN h a v 42 = h 42 := upN_n _ (by omega)
  refine ⟨by rw [e42]; exact h1, by rw [e41]; exact h2, by rw [e40, e42]; exact h3, fun c hc => ?_⟩
  have k1 : upN h a v (8 + c) = h (8 + c) := upN_n _ (by omega)
  have k2 : upN h a v (16 + c) = h (16 + c) := upN_n _ (by omega)
  have k3 : upN h a v (24 + c) = h (24 + c) := upN_n _ (by omega)
  have k4 : upN h a v (32 + c) = h (32 + c) := upN_n _ (by omega)
  obtain ⟨q1, q2, q3, q4⟩ := h4 c hc
  rw [k1, k2, k3, k4, e42]
  by_cases e : c = a
  · subst e
    rw [upN_s]
    exact ⟨⟨hv', q1.2⟩, q2, q3, fun q => absurd q (by omega)⟩
  · rw [upN_n _ e]
    exact ⟨q1, q2, q3, q4⟩
theorem hv.set_fg {h : Nat → Nat} (H : hv h) {a v : Nat} (ha : a < h 42) (hv' : v ≤ 9) : hv (upN h (8 + a) v) := by
  obtain ⟨h1, h2, h3, h4⟩ := H
  have e40 : upN h (8 + a) v 40 = h 40 := upN_n _ (by omega)
  have e41 : upN h (8 + a) v 41 = h 41 := upN_n _ (by omega)
  have e42 : upN h (8 + a) v 42 = h 42 := upN_n _ (by omega)
  refine ⟨by rw [e42]; exact h1, by rw [e41]; exact h2, by rw [e40, e42]; exact h3, fun c hc => ?_⟩
  have k0 : upN h (8 + a) v c = h c := upN_n _ (by omega)
  have k2 : upN h (8 + a) v (16 + c) = h (16 + c) := upN_n _ (by omega)
  have k3 : upN h (8 + a) v (24 + c) = h (24 + c) := upN_n _ (by omega)
  have k4 : upN h (8 + a) v (32 + c) = h (32 + c) := upN_n _ (by omega)
  obtain ⟨q1, q2, q3, q4⟩ := h4 c hc
  rw [k0, k2, k3, k4, e42]
  by_cases e : c = a
  · subst e
    rw [upN_s]
    exact ⟨⟨q1.1, hv', q1.2.2⟩, q2, q3, fun q => absurd q (by omega)⟩
  · rw [upN_n _ (show 8 + c ≠ 8 + a by omega)]
    exact ⟨q1, q2, q3, q4⟩
theorem hv.set_su {h : Nat → Nat} (H : hv h) {a v : Nat} (ha : a < h 42) (hv' : v < 2 ^ (h 42)) : hv (upN h (32 + a) v) := by
  obtain ⟨h1, h2, h3, h4⟩ := H
  have e40 : upN h (32 + a) v 40 = h 40 := upN_n _ (by omega)
  have e41 : upN h (32 + a) v 41 = h 41 := upN_n _ (by omega)
  have e42 : upN h (32 + a) v 42 = h 42 := upN_n _ (by omega)
  refine ⟨by rw [e42]; exact h1, by rw [e41]; exact h2, by rw [e40, e42]; exact h3, fun c hc => ?_⟩
  have k0 : upN h (32 + a) v c = h c := upN_n _ (by omega)
  have k1 : upN h (32 + a) v (8 + c) = h (8 + c) := upN_n _ (by omega)
  have k2 : upN h (32 + a) v (16 + c) = h (16 + c) := upN_n _ (by omega)
  have k3 : upN h (32 + a) v (24 + c) = h (24 + c) := upN_n _ (by omega)
  obtain ⟨q1, q2, q3, q4⟩ := h4 c hc
  rw [k0, k1, k2, k3, e42]
  by_cases e : c = a
  · subst e
    rw [upN_s]
    exact ⟨q1, ⟨q2.1, hv'⟩, q3, fun q => absurd q (by omega)⟩
  · rw [upN_n _ (show 32 + c ≠ 32 + a by omega)]
    exact ⟨q1, q2, q3, q4⟩
theorem hv.set_md {h : Nat → Nat} (H : hv h) {x : Nat} (hx : x ≤ 3) : hv (upN h 41 x) := by
  obtain ⟨h1, h2, h3, h4⟩ := H
  have e40 : upN h 41 x 40 = h 40 := upN_n _ (by omega)
  have e42 : upN h 41 x 42 = h 42 := upN_n _ (by omega)
  refine ⟨by rw [e42]; exact h1, by rw [upN_s]; exact hx, by rw [e40, e42]; exact h3, fun c hc => ?_⟩
  rw [upN_n (j := c) _ (by omega), upN_n (j := 8 + c) _ (by omega), upN_n (j := 16 + c) _ (by omega), upN_n (j := 24 + c) _ (by omega), upN_n (j := 32 + c) _ (by omega), e42]
  exact h4 c hc
section HCS
variable {h : Nat → Nat} {sz hr md : Int32} {ca fi vo at_ su : Int64}
theorem HC.at_up (e : HC h sz hr md ca fi vo at_ su) {a : Nat} (ha : a < 8) (v : Nat) : HC (upN h (24 + a) v) sz hr md ca fi vo (pL (upN (fun c => h (24 + c)) a v)) su := by
  obtain ⟨rfl, rfl, rfl, rfl, rfl, rfl, rfl, rfl⟩ := e
  refine ⟨by rw [upN_n _ (by omega)], by rw [upN_n _ (by omega)], by rw [upN_n _ (by omega)], pL_congr (fun i hi => (upN_n _ (by omega)).symm), pL_congr (fun i hi => (upN_n _ (by omega)).symm), pL_congr (fun i hi => (upN_n _ (by omega)).symm), pL_congr (fun i hi => ?_), pL_congr (fun i hi => (upN_n _ (by omega)).symm)⟩
  by_cases q : i = a
  · subst q; rw [upN_s, upN_s]
  · rw [upN_n _ q, upN_n _ (by omega)]
theorem HC.su_up (e : HC h sz hr md ca fi vo at_ su) {a : Nat} (ha : a < 8) (v : Nat) : HC (upN h (32 + a) v) sz hr md ca fi vo at_ (pL (upN (fun c => h (32 + c)) a v)) := by
  obtain ⟨rfl, rfl, rfl, rfl, rfl, rfl, rfl, rfl⟩ := e
  refine ⟨by rw [upN_n _ (by omega)], by rw [upN_n _ (by omega)], by rw [upN_n _ (by omega)], pL_congr (fun i hi => (upN_n _ (by omega)).symm), pL_congr (fun i hi => (upN_n _ (by omega)).symm), pL_congr (fun i hi => (upN_n _ (by omega)).symm), pL_congr (fun i hi => (upN_n _ (by omega)).symm), pL_congr (fun i hi => ?_)⟩
  by_cases q : i = a
  · subst q; rw [upN_s, upN_s]
  · rw [upN_n _ q, upN_n _ (by omega)]
theorem HC.kd_up (e : HC h sz hr md ca fi vo at_ su) {a : Nat} (ha : a < 8) (v : Nat) : HC (upN h a v) sz hr md (pL (upN (fun c => h c) a v)) fi vo at_ su := by
  obtain ⟨rfl, rfl, rfl, rfl, rfl, rfl, rfl, rfl⟩ := e
  refine ⟨by rw [upN_n _ (by omega)], by rw [upN_n _ (by omega)], by rw [upN_n _ (by omega)], rfl, pL_congr (fun i hi => (upN_n _ (by omega)).symm), pL_congr (fun i hi => (upN_n _ (by omega)).symm), pL_congr (fun i hi => (upN_n _ (by omega)).symm), pL_congr (fun i hi => (upN_n _ (by omega)).symm)⟩
theorem HC.fg_up (e : HC h sz hr md ca fi vo at_ su) {a : Nat} (ha : a < 8) (v : Nat) : HC (upN h (8 + a) v) sz hr md ca (pL (upN (fun c => h (8 + c)) a v)) vo at_ su := by
  obtain ⟨rfl, rfl, rfl, rfl, rfl, rfl, rfl, rfl⟩ := e
  refine ⟨by rw [upN_n _ (by omega)], by rw [upN_n _ (by omega)], by rw [upN_n _ (by omega)], pL_congr (fun i hi => (upN_n _ (by omega)).symm), pL_congr (fun i hi => ?_), pL_congr (fun i hi => (upN_n _ (by omega)).symm), pL_congr (fun i hi => (upN_n _ (by omega)).symm), pL_congr (fun i hi => (upN_n _ (by omega)).symm)⟩
  by_cases q : i = a
  · subst q; rw [upN_s, upN_s]
  · rw [upN_n _ q, upN_n _ (by omega)]
theorem HC.hd_up (e : HC h sz hr md ca fi vo at_ su) (v : Nat) : HC (upN h 40 v) sz (nI v) md ca fi vo at_ su := by
  obtain ⟨rfl, rfl, rfl, rfl, rfl, rfl, rfl, rfl⟩ := e
  exact ⟨by rw [upN_n _ (by omega)], by rw [upN_s], by rw [upN_n _ (by omega)], pL_congr (fun i hi => (upN_n _ (by omega)).symm), pL_congr (fun i hi => (upN_n _ (by omega)).symm), pL_congr (fun i hi => (upN_n _ (by omega)).symm), pL_congr (fun i hi => (upN_n _ (by omega)).symm), pL_congr (fun i hi => (upN_n _ (by omega)).symm)⟩
theorem HC.md_up (e : HC h sz hr md ca fi vo at_ su) (v : Nat) : HC (upN h 41 v) sz hr (nI v) ca fi vo at_ su := by
  obtain ⟨rfl, rfl, rfl, rfl, rfl, rfl, rfl, rfl⟩ := e
  exact ⟨by rw [upN_n _ (by omega)], by rw [upN_n _ (by omega)], by rw [upN_s], pL_congr (fun i hi => (upN_n _ (by omega)).symm), pL_congr (fun i hi => (upN_n _ (by omega)).symm), pL_congr (fun i hi => (upN_n _ (by omega)).symm), pL_congr (fun i hi => (upN_n _ (by omega)).symm), pL_congr (fun i hi => (upN_n _ (by omega)).symm)⟩
/-- an attack turned -/
def fl (h : Nat → Nat) (a b : Nat) : Nat → Nat := upN h (24 + a) (h (24 + a) ^^^ 2 ^ b)
theorem pw_lt {a b : Nat} (h : a < b) : 2 ^ a < 2 ^ b := Nat.pow_lt_pow_right (by decide) h
theorem hv.fl_ok (H : hv h) {a b : Nat} (ha : a < h 42) (hb : b < h 42) (hab : ¬ a = b) : hv (fl h a b) := by
  have h8 := H.1
  have q := H.2.2.2 a (by omega)
  refine H.set_at ha (Nat.xor_lt_two_pow q.2.1.1 (pw_lt hb)) ?_
  rw [Nat.testBit_xor, q.2.2.1, tb_pw]
  simp
  omega
theorem fl_fl (h : Nat → Nat) (a b : Nat) : fl (fl h a b) a b = h := by
  funext j
  unfold fl
  by_cases e : j = 24 + a
  · subst e; rw [upN_s, upN_s, Nat.xor_assoc, Nat.xor_self, Nat.xor_zero]
  · rw [upN_n _ e, upN_n _ e]
theorem s_flipAttack (e : HC h sz hr md ca fi vo at_ su) {a b : Nat} (ha : a < 8) (hb : b < 8) {post : Int64 → Prop} (hp : ∀ at2, HC (fl h a b) sz hr md ca fi vo at2 su → post at2) : wp_X3_flipAttack post at_ (nI a) (nI b) := by
  unfold wp_X3_flipAttack
  have e7 := e.2.2.2.2.2.2.1
  refine s_pair ha hb ?_
  have u := e.at_up ha (h (24 + a) ^^^ 2 ^ b)
  refine hp _ ?_
  rw [e7]
  unfold pL
  rw [lx_xor, pk_xorp ha hb]
  exact u
theorem s_draftIn (H : hv h) (e : HC h sz hr md ca fi vo at_ su) {a1 a2 a3 a4 : Int64} {b1 b2 b3 : Int32} {b4 : Int64} {post : Int32 → Int64 → Int64 → Int64 → Int64 → Int32 → Int32 → Int32 → Int64 → Prop} (hp : ∀ c1 c2 c3 c4 d4, post (nI (tI h)) c1 c2 c3 c4 (nI (tI h)) (nI (tO h)) (nI (tN h)) d4) : wp_X8_draftIn post sz hr md ca fi at_ su a1 a2 a3 a4 b1 b2 b3 b4 := by
  obtain ⟨rfl, rfl, rfl, rfl, rfl, rfl, rfl, rfl⟩ := e
  unfold wp_X8_draftIn
  refine s_reckon H ?_
  refine s_run H ?_
  exact hp _ _ _ _ _
theorem s_draftStable (H : hv h) (e : HC h sz hr md ca fi vo at_ su) {a1 a2 a3 a4 : Int64} {post : Int32 → Int64 → Int64 → Int64 → Int64 → Prop} (hp : ∀ c1 c2 c3 c4, post (nI (cnt (staB h) 256)) c1 c2 c3 c4) : wp_X8_draftStable post sz hr md ca fi at_ su a1 a2 a3 a4 := by
  obtain ⟨rfl, rfl, rfl, rfl, rfl, rfl, rfl, rfl⟩ := e
  unfold wp_X8_draftStable
  refine s_reckon H ?_
  refine s_stableSets H ?_
  exact hp _ _ _ _
end HCS
