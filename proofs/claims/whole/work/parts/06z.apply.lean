/-! the class's statements -/
theorem dg_lo {l : Nat} (h : dgB l = true) : 48 ≤ l ∧ l - 48 ≤ 9 := by have := of_decide_eq_true h; omega
theorem nm_lo {l : Nat} (h : nmB l = true) : 97 ≤ l ∧ l - 97 < 26 := by have := of_decide_eq_true h; omega
section APL
variable {L : Nat → Nat} {n : Nat} {g : Nat → Int32} {h : Nat → Nat}
theorem s_digitAt (hn : n ≤ 96) (hg : ag n g L) {k : Nat} (hk : k < n) (hd' : dgB (L k) = true) {post : Int32 → Prop} (hp : post (nI (L k - 48))) : wp_X5_digitAt post g (nI n) (nI k) := by
  unfold wp_X5_digitAt
  refine s_letAt hn (by decide) hg (by omega) ?_
  rw [if_pos hk, pk_sub (dg_lo hd').1]
  exact hp
theorem s_claimAt (hn : n ≤ 96) (hg : ag n g L) {k : Nat} (hk : k < n) (hd' : nmB (L k) = true) {post : Int32 → Prop} (hp : post (nI (L k - 97))) : wp_X5_claimAt post g (nI n) (nI k) := by
  unfold wp_X5_claimAt
  refine s_letAt hn (by decide) hg (by omega) ?_
  rw [if_pos hk, pk_sub (nm_lo hd').1]
  exact hp
theorem s_isKind {k : Nat} (hk : k < 2 ^ 31) {post : Int32 → Prop} (hp : post (zI (decide (k ≤ 5)))) : wp_X10_isKind post (nI k) := by
  unfold wp_X10_isKind
  refine wf (nI_pos hk) (wc (nI_leI (by decide) hk) (fun q => ?_) (fun q => ?_))
  · rw [decide_eq_false (by omega)] at hp; exact hp
  · rw [decide_eq_true (by omega)] at hp; exact hp
theorem s_isFull {k : Nat} (hk : k < 2 ^ 31) {post : Int32 → Prop} (hp : post (zI (decide (8 ≤ k)))) : wp_X3_isFull post (nI k) := by
  unfold wp_X3_isFull
  refine wc (nI_ltI hk (by decide)) (fun q => ?_) (fun q => ?_)
  · rw [decide_eq_false (by omega)] at hp; exact hp
  · rw [decide_eq_true (by omega)] at hp; exact hp
theorem s_arrow {sz hr md : Int32} {ca fi vo at_ su : Int64} (H : hv h) (e : HC h sz hr md ca fi vo at_ su) {x o y : Nat} (hx : x < 26) (hy : y < 26) (ho : o < 256) {post : Int32 → Int64 → Int64 → Prop} (hok : ∀ h', arr h x o y = some h' → ∀ at2 su2, HC h' sz hr md ca fi vo at2 su2 → post (nI 1) at2 su2) (hno : arr h x o y = none → ∀ at2 su2, post (nI 0) at2 su2) : wp_X5_applyArrow post sz at_ su (nI x) (nI o) (nI y) := by
  have h8 := H.1
  have e1 := e.1
  unfold wp_X5_applyArrow
  rw [e1]
  have no : ¬ (x < h 42 ∧ y < h 42 ∧ ¬ x = y) → arr h x o y = none := fun q => by unfold arr; rw [if_neg q]
  refine s_knows (by omega) (fun c hc ec => ?_) (fun q => ?_)
  · have xc := (nI_eq (by omega) (by omega)).mp ec
    refine wf n1_0 ?_
    refine s_knows (by omega) (fun d hd' ed => ?_) (fun q => ?_)
    · have yd := (nI_eq (by omega) (by omega)).mp ed
      refine wf n1_0 ?_
      refine wc2 (nI_eq (by omega) (by omega)) (fun q => hno (no (fun k => k.2.2 q)) _ _) (fun q => ?_)
      have ya : arr h x o y = if o = 62 then some (upN h (24 + x) (h (24 + x) ||| 2 ^ y)) else some (upN h (32 + x) (h (32 + x) ||| 2 ^ y)) := by unfold arr; rw [if_pos ⟨by omega, by omega, q⟩]
      refine wc2 (nI_eq (by omega) (by decide)) (fun q2 => ?_) (fun q2 => ?_)
      · refine s_pair (by omega) (by omega) ?_
        have u := e.at_up (a := x) (by omega) (h (24 + x) ||| 2 ^ y)
        rw [e.2.2.2.2.2.2.1]
        unfold pL
        rw [lx_or, pk_orp (by omega) (by omega)]
        exact hok _ (by rw [ya, if_pos q2]) _ _ u
      · refine s_pair (by omega) (by omega) ?_
        have u := e.su_up (a := x) (by omega) (h (32 + x) ||| 2 ^ y)
        rw [e.2.2.2.2.2.2.2]
        unfold pL
        rw [lx_or, pk_orp (by omega) (by omega)]
        exact hok _ (by rw [ya, if_neg q2]) _ _ u
    · exact wt rfl (hno (no (fun k => q ⟨y, k.2.1, rfl⟩)) _ _)
  · exact wt rfl (hno (no (fun k => q ⟨x, k.1, rfl⟩)) _ _)
theorem s_applyChain (hn : n ≤ 96) (hg : ag n g L) (hL : ∀ k, k < n → L k < 256) {sz hr md : Int32} {ca fi vo at_ su : Int64} (H : hv h) (e : HC h sz hr md ca fi vo at_ su) {a J : Nat} (hJ : a + 2 * J + 1 < n) (h0 : nmB (L a) = true) (hs : ∀ j, j < J → lkB (L (a + 2 * j + 1)) = true ∧ nmB (L (a + 2 * j + 2)) = true) {post : Int32 → Int64 → Int64 → Prop} (hok : ∀ h', chR L h a J = some h' → ∀ at2 su2, HC h' sz hr md ca fi vo at2 su2 → post (nI 1) at2 su2) (hno : chR L h a J = none → ∀ at2 su2, post (nI 0) at2 su2) : wp_X5_applyChain post g (nI n) sz at_ su (nI a) (nI (a + 2 * J + 1)) := by
  unfold wp_X5_applyChain
  rw [nS a]
  have nm : ∀ j, j ≤ J → nmB (L (a + 2 * j)) = true := fun j hj => by
    cases j with
    | zero => exact h0
    | succ j => exact (hs j (by omega)).2
  refine lo2 (fun m j at_ su => wp_X5_applyChain_4 post g (nI n) sz (nI a) (nI (a + 2 * J + 1)) m (nI (a + 1 + 2 * j)) at_ su) (fun j at_ su => ∃ x, chR L h a j = some x ∧ HC x sz hr md ca fi vo at_ su) J _ _ ⟨h, rfl, e⟩ ?_ ?_
  · rintro m at_ su ⟨x, e1, e2⟩
    show wp_X5_applyChain_4 _ _ _ _ _ _ _ _ _ _
    unfold wp_X5_applyChain_4
    exact wt (nI_le (by omega) (by omega)) (hok x e1 _ _ e2)
  · rintro m j at_ su hj ⟨x, e1, e2⟩ ih
    show wp_X5_applyChain_4 _ _ _ _ _ _ _ _ _ _
    unfold wp_X5_applyChain_4
    have k := hs j hj
    have X := chR_ok H j x e1
    refine wf (nI_ge (by omega) (by omega)) ?_
    rw [nI_add, nI_add, pk_sub (by omega), show a + 1 + 2 * j - 1 = a + 2 * j by omega, show a + 1 + 2 * j + 1 = a + 2 * j + 2 by omega, show a + 1 + 2 * j + 2 = a + 1 + 2 * (j + 1) by omega, show a + 1 + 2 * j = a + 2 * j + 1 by omega]
    refine s_claimAt hn hg (by omega) (nm j (by omega)) ?_
    refine s_letAt hn (by decide) hg (by omega) ?_
    rw [if_pos (show a + 2 * j + 1 < n by omega)]
    refine s_claimAt hn hg (by omega) k.2 ?_
    refine s_arrow X.1 e2 (nm_lo (nm j (by omega))).2 (nm_lo k.2).2 (hL _ (by omega)) (fun h' q at2 su2 q2 => ?_) (fun q at2 su2 => ?_)
    · exact wf2 n1_0 (ih _ _ ⟨h', by rw [chR_s e1, q], q2⟩)
    · refine wt2 rfl (hno ?_ _ _)
      have := chR_no (show chR L h a (j + 1) = none by rw [chR_s e1, q]) (J - (j + 1))
      rw [show j + 1 + (J - (j + 1)) = J by omega] at this
      exact this
theorem s_apply (hn : n ≤ 96) (hg : ag n g L) (hL : ∀ k, k < n → L k < 256) {sz hr md : Int32} {ca fi vo at_ su : Int64} (H : hv h) (e : HC h sz hr md ca fi vo at_ su) {a p : Nat} (S : shp L a p) (hp : p < n) {post : Int32 → Int32 → Int32 → Int32 → Int64 → Int64 → Int64 → Int64 → Int64 → Prop} (hok : ∀ h', eff L h a p = some h' → ∀ d1 d2 d3 d4 d5 d6 d7 d8, HC h' d1 d2 d3 d4 d5 d6 d7 d8 → post (nI 1) d1 d2 d3 d4 d5 d6 d7 d8) (hno : eff L h a p = none → ∀ d1 d2 d3 d4 d5 d6 d7 d8, post (nI 0) d1 d2 d3 d4 d5 d6 d7 d8) : wp_X5_apply post g (nI n) sz hr md ca fi vo at_ su (nI a) (nI p) := by
  have h8 := H.1
  have e1 := e.1
  have la : a < n := by
    rcases S with ⟨-, q, -⟩ | ⟨-, q, -⟩ | ⟨-, -, q, -⟩ | ⟨-, -, q⟩ | ⟨-, J, -, q, -⟩ <;> omega
  unfold wp_X5_apply
  refine s_letAt hn (by decide) hg (by omega) ?_
  rw [if_pos la, nI_add, nI_add, nI_add]
  rcases S with ⟨s0, s9, s1, s2, s3⟩ | ⟨s0, s9, s1⟩ | ⟨s0, s1, s9, s2, s3⟩ | ⟨s0, s1, s9⟩ | ⟨s0, J, s8, s9, s2⟩
  · have E : eff L h a p = if L (a + 1) - 48 ≤ 5 ∧ h 42 < 8 then some (adn h (L (a + 1) - 48) (L (a + 2) - 48) (L (a + 3) - 48)) else none := by unfold eff; rw [if_pos s0]
    refine wt2 (by rw [s0]) ?_
    unfold wp_X5_applyNew
    rw [nI_add, nI_add, nI_add]
    refine s_digitAt hn hg (by omega) s1 ?_
    have q1 := dg_lo s1
    refine s_isKind (by omega) ?_
    refine zc (fun z => ⟨Or.inl rfl, hno ?_ _ _ _ _ _ _ _ _⟩) (fun z => ?_)
    · have := of_decide_eq_false z
      rw [E, if_neg (fun k => this k.1)]
    · have z1 := of_decide_eq_true z
      rw [e1]
      refine s_isFull (by omega) ?_
      refine zc (fun y => ?_) (fun y => ⟨Or.inl rfl, hno ?_ _ _ _ _ _ _ _ _⟩)
      · have y1 := of_decide_eq_false y
        refine s_digitAt hn hg (by omega) s2 (s_digitAt hn hg (by omega) s3 ?_)
        rw [e1] at e
        refine s_add e (by omega) z1 (dg_lo s2).2 (dg_lo s3).2 (fun sz hr ca fi vo q => ⟨Or.inr rfl, hok _ ?_ _ _ _ _ _ _ _ _ q⟩)
        rw [E, if_pos ⟨z1, by omega⟩]
      · have y1 := of_decide_eq_true y
        rw [E, if_neg (fun k => by omega)]
  · have E : eff L h a p = if L (a + 1) - 48 < 4 then some (upN h 41 (L (a + 1) - 48)) else none := by unfold eff; rw [if_neg (by omega), if_pos s0]
    refine wf2 (fun k => by rw [s0] at k; exact absurd k (by decide +kernel)) (wt2 (by rw [s0]) ?_)
    refine s_digitAt hn hg (by omega) s1 ?_
    have q1 := dg_lo s1
    unfold wp_X5_applyMode
    refine wf (nI_pos (by omega)) (wc (nI_ltI (by omega) (by decide)) (fun q => ⟨Or.inr rfl, hok _ ?_ _ _ _ _ _ _ _ _ (e.md_up _)⟩) (fun q => ⟨Or.inl rfl, hno ?_ _ _ _ _ _ _ _ _⟩))
    · rw [E, if_pos q]
    · rw [E, if_neg q]
  all_goals
    have nl := nm_lo s0
    have nb := of_decide_eq_true s0
    have lb := hL a la
    refine wf2 (fun k => by have := (nI_eq (by omega) (by decide)).mp k; omega) (wf2 (fun k => by have := (nI_eq (by omega) (by decide)).mp k; omega) ?_)
    refine s_claimAt hn hg la s0 ?_
    have E : eff L h a p = if L a - 97 < h 42 then (if L (a + 1) = 58 then (if L (a + 2) - 48 ≤ 5 then some (upN (upN h (L a - 97) (L (a + 2) - 48)) (8 + (L a - 97)) (L (a + 3) - 48)) else none) else if L (a + 1) = 33 then some (upN h 40 (h 40 ^^^ 2 ^ (L a - 97))) else chR L h a ((p - a) / 2)) else none := by unfold eff; rw [if_neg (by omega), if_neg (by omega)]
    rw [e1]
    refine s_knows (by omega) (fun c hc ec => ?_) (fun q => wt2 rfl (hno (by rw [E, if_neg (fun k => q ⟨_, k, rfl⟩)]) _ _ _ _ _ _ _ _))
    have ec2 := (nI_eq (by omega) (by omega)).mp ec
    rw [if_pos (show L a - 97 < h 42 by omega)] at E
    rw [← e1]
    refine wf2 n1_0 ?_
    refine s_letAt hn (by decide) hg (by omega) ?_
    rw [if_pos (show a + 1 < n by omega)]
  · rw [if_pos s1] at E
    refine wt2 (by rw [s1]) ?_
    refine s_digitAt hn hg (by omega) s2 (s_digitAt hn hg (by omega) s3 ?_)
    have q2 := dg_lo s2
    have q3 := dg_lo s3
    unfold wp_X5_applyKind
    refine s_isKind (by omega) (zc2 (fun z => ⟨Or.inl rfl, hno ?_ _ _ _ _ _ _ _ _⟩) (fun z => ?_))
    · have := of_decide_eq_false z
      rw [E, if_neg this]
    · have z1 := of_decide_eq_true z
      refine s_recast e (by omega) (by omega) (by omega) (fun ca fi q => ⟨Or.inr rfl, hok _ ?_ _ _ _ _ _ _ _ _ q⟩)
      rw [E, if_pos z1]
  · rw [if_neg (by omega), if_pos s1] at E
    refine wf2 (fun k => by rw [s1] at k; exact absurd k (by decide +kernel)) (wt2 (by rw [s1]) ?_)
    unfold wp_X3_flipHeard
    have u := e.hd_up (h 40 ^^^ 2 ^ (L a - 97))
    rw [e.2.1, shl_1 (by omega), nx_xor]
    exact hok _ E _ _ _ _ _ _ _ _ u
  · have k1 : lkB (L (a + 1)) = true := (s2 0 (by omega)).1
    have k2 := lk_ne k1
    have l1 := hL (a + 1) (by omega)
    rw [if_neg k2.1, if_neg k2.2, s9, show (a + 2 * J + 1 - a) / 2 = J by omega] at E
    refine wf2 (fun q => k2.1 ((nI_eq (by omega) (by decide)).mp q)) (wf2 (fun q => k2.2 ((nI_eq (by omega) (by decide)).mp q)) ?_)
    rw [s9]
    refine s_applyChain hn hg hL H e (by omega) s0 s2 (fun h' q at2 su2 q2 => ⟨Or.inr rfl, hok h' (by rw [s9]; exact E.trans q) _ _ _ _ _ _ _ _ q2⟩) (fun q at2 su2 => ⟨Or.inl rfl, hno (by rw [s9]; exact E.trans q) _ _ _ _ _ _ _ _⟩)
end APL
