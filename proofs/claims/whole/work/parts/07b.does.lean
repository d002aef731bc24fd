/-! the reference does the statements -/
theorem m_isLinkN {l : Nat} (hl : l < 256) {post : Int32 → Prop} (hp : post (zI (lkB l))) : wp_X11_isLink post (nI l) := by
  unfold wp_X11_isLink
  refine wc (nI_eq (by omega) (by decide)) (fun e => ?_) (fun e => wc2 (nI_eq (by omega) (by decide)) (fun e2 => ?_) (fun e2 => ?_))
  · rw [show lkB l = true from decide_eq_true (by omega)] at hp; exact hp
  · rw [show lkB l = true from decide_eq_true (by omega)] at hp; exact hp
  · rw [show lkB l = false from decide_eq_false (by omega)] at hp; exact hp
section DOE
variable {L : Nat → Nat} {n : Nat} {g : Nat → Int32} {h : Nat → Nat} {gw : Nat → Int32} {post : Int32 → (Nat → Int32) → Prop}
theorem m_digitAt (hn : n ≤ 96) (hg : ag n g L) {k : Nat} (hk : k < n) (hd' : dgB (L k) = true) {post : Int32 → Prop} (hp : post (nI (L k - 48))) : wp_X11_digitAt post g (nI k) := by
  unfold wp_X11_digitAt
  refine ⟨vp_in_nI (by omega) (by decide), ?_⟩
  rw [nI_clamp (by omega), hg k hk, pk_sub (dg_lo hd').1]
  exact hp
theorem m_links (hn : n ≤ 96) (hg : ag n g L) (hL : ∀ k, k < n → L k < 256) (hw : ag 43 gw h) (H : hv h) {a J : Nat} (hJ : a + 2 * J + 1 < n) (h59 : L (a + 2 * J + 1) = 59) (h0 : nmB (L a) = true) (ha : L a - 97 < h 42) (hs : ∀ j, j < J → lkB (L (a + 2 * j + 1)) = true ∧ nmB (L (a + 2 * j + 2)) = true) (hok : ∀ h', chR L h a J = some h' → ∀ gw, ag 43 gw h' → post (nI 1) gw) (hno : chR L h a J = none → ∀ gw, post (nI 0) gw) : wp_X11_links post gw g (nI a) := by
  have h8 := H.1
  unfold wp_X11_links
  have nm : ∀ j, j ≤ J → nmB (L (a + 2 * j)) = true := fun j hj => by
    cases j with
    | zero => exact h0
    | succ j => exact (hs j (by omega)).2
  refine loop_0 (fun m j gw => wp_X11_links_2 post g (nI a) m (nI (a + 2 * j)) gw) (fun j gw => ∃ x, chR L h a j = some x ∧ ag 43 gw x ∧ L (a + 2 * j) - 97 < h 42) J _ ⟨h, rfl, hw, ha⟩ ?_ ?_
  · rintro m gw ⟨x, e1, e2, -⟩
    show wp_X11_links_2 _ _ _ _ _ _
    unfold wp_X11_links_2
    rw [nI_add (a + 2 * J) 1, nI_clamp (show a + 2 * J + 1 < 2 ^ 31 by omega), hg _ hJ]
    refine ⟨vp_in_nI (by omega) (by decide), m_isLinkN (hL _ hJ) ?_⟩
    rw [h59]
    exact wt (by decide +kernel) (hok x e1 gw e2)
  · rintro m j gw hj ⟨x, e1, e2, e3⟩ ih
    show wp_X11_links_2 _ _ _ _ _ _
    unfold wp_X11_links_2 wp_X11_links_80
    have k := hs j hj
    have X := chR_ok H j x e1
    have x8 := X.1.1
    have n1 := nm_lo (nm j (by omega))
    have n2 := nm_lo k.2
    have lj1 := hL (a + 2 * j + 1) (by omega)
    rw [nI_add (a + 2 * j) 1, nI_add (a + 2 * j) 2, nI_clamp (show a + 2 * j + 1 < 2 ^ 31 by omega), nI_clamp (show a + 2 * j + 2 < 2 ^ 31 by omega), nI_clamp (show a + 2 * j < 2 ^ 31 by omega), hg _ (show a + 2 * j + 1 < n by omega), hg _ (show a + 2 * j + 2 < n by omega), hg _ (show a + 2 * j < n by omega), pk_sub n1.1, pk_sub n2.1]
    refine ⟨vp_in_nI (by omega) (by decide), m_isLinkN lj1 ?_⟩
    rw [k.1]
    refine wf n1_0 ⟨vp_in_nI (by omega) (by decide), vp_in_nI (by omega) (by decide), ?_⟩
    have stop : arr x (L (a + 2 * j) - 97) (L (a + 2 * j + 1)) (L (a + 2 * j + 2) - 97) = none → chR L h a J = none := fun q => by
      have := chR_no (show chR L h a (j + 1) = none by rw [chR_s e1, q]) (J - (j + 1))
      rw [show j + 1 + (J - (j + 1)) = J by omega] at this
      exact this
    have no : ¬ (L (a + 2 * j) - 97 < x 42 ∧ L (a + 2 * j + 2) - 97 < x 42 ∧ ¬ L (a + 2 * j) - 97 = L (a + 2 * j + 2) - 97) → arr x (L (a + 2 * j) - 97) (L (a + 2 * j + 1)) (L (a + 2 * j + 2) - 97) = none := fun q => by unfold arr; rw [if_neg q]
    refine m_isClaim e2 X.1 (fun c hc ec => ?_) (fun q => wt rfl (hno (stop (no (fun k => q ⟨_, k.2.1, rfl⟩))) _))
    have ec2 := (nI_eq (by omega) (by omega)).mp ec
    refine wf n1_0 ?_
    refine wc2 (nI_eq (by omega) (by omega)) (fun q => hno (stop (no (fun k => k.2.2 q))) _) (fun q => ⟨vp_in_nI (by omega) (by decide), ?_⟩)
    have ya : arr x (L (a + 2 * j) - 97) (L (a + 2 * j + 1)) (L (a + 2 * j + 2) - 97) = if L (a + 2 * j + 1) = 62 then some (upN x (24 + (L (a + 2 * j) - 97)) (x (24 + (L (a + 2 * j) - 97)) ||| 2 ^ (L (a + 2 * j + 2) - 97))) else some (upN x (32 + (L (a + 2 * j) - 97)) (x (32 + (L (a + 2 * j) - 97)) ||| 2 ^ (L (a + 2 * j + 2) - 97))) := by unfold arr; rw [if_pos ⟨by rw [X.2]; exact e3, by omega, q⟩]
    have ne : L (a + 2 * (j + 1)) - 97 < h 42 := by
      rw [show a + 2 * (j + 1) = a + 2 * j + 2 by omega, ec2, ← X.2]; exact hc
    have e3' := e3
    rw [nI_add 24, nI_add 32, shl_1 (by omega)]
    refine wc2 (nI_eq (by omega) (by decide)) (fun q2 => ⟨vp_in_nI (by omega) (by decide), vp_in_nI (by omega) (by decide), ?_⟩) (fun q2 => ⟨vp_in_nI (by omega) (by decide), vp_in_nI (by omega) (by decide), ?_⟩)
    · rw [nI_clamp (by omega), e2 _ (by omega), nx_or]
      exact ih _ ⟨_, by rw [chR_s e1, ya, if_pos q2], e2.set _ _, ne⟩
    · rw [nI_clamp (by omega), e2 _ (by omega), nx_or]
      exact ih _ ⟨_, by rw [chR_s e1, ya, if_neg q2], e2.set _ _, ne⟩
theorem m_does (hn : n ≤ 96) (hg : ag n g L) (hL : ∀ k, k < n → L k < 256) (hw : ag 43 gw h) (H : hv h) {a p : Nat} (S : shp L a p) (hp : p < n) (h59 : L p = 59) (hok : ∀ h', eff L h a p = some h' → ∀ gw, ag 43 gw h' → post (nI 1) gw) (hno : eff L h a p = none → ∀ gw, post (nI 0) gw) : wp_X11_does post gw g (nI a) := by
  have h8 := H.1
  have la : a + 1 < n := by
    rcases S with ⟨-, q, -⟩ | ⟨-, q, -⟩ | ⟨-, -, q, -⟩ | ⟨-, -, q⟩ | ⟨-, J, -, q, -⟩ <;> omega
  have l0 := hL a (by omega)
  unfold wp_X11_does
  rw [nI_add a 1, nI_add a 2, nI_add a 3, nI_clamp (show a < 2 ^ 31 by omega), nI_clamp (show a + 1 < 2 ^ 31 by omega), hg a (by omega), hg (a + 1) la]
  refine ⟨vp_in_nI (by omega) (by decide), ?_⟩
  rcases S with ⟨s0, s9, s1, s2, s3⟩ | ⟨s0, s9, s1⟩ | ⟨s0, s1, s9, s2, s3⟩ | ⟨s0, s1, s9⟩ | ⟨s0, J, s8, s9, s2⟩
  · have E : eff L h a p = if L (a + 1) - 48 ≤ 5 ∧ h 42 < 8 then some (adn h (L (a + 1) - 48) (L (a + 2) - 48) (L (a + 3) - 48)) else none := by unfold eff; rw [if_pos s0]
    refine wt2 (by rw [s0]) ?_
    have q1 := dg_lo s1
    refine m_digitAt hn hg (by omega) s1 (m_digitAt hn hg (by omega) s2 (m_digitAt hn hg (by omega) s3 ?_))
    by_cases c : L (a + 1) - 48 ≤ 5 ∧ h 42 < 8
    · refine m_comes hw H c.2 c.1 (dg_lo s2).2 (dg_lo s3).2 (fun gw q => ⟨Or.inr rfl, hok _ ?_ gw q⟩)
      rw [E, if_pos c]
    · refine m_comes_no hw ?_ ⟨Or.inl rfl, hno ?_ _⟩
      · by_cases k : L (a + 1) - 48 ≤ 5
        · exact Or.inr (by omega)
        · exact Or.inl (nI_lt (by omega) (by omega))
      · rw [E, if_neg c]
  · have E : eff L h a p = if L (a + 1) - 48 < 4 then some (upN h 41 (L (a + 1) - 48)) else none := by unfold eff; rw [if_neg (by omega), if_pos s0]
    refine wf2 (fun k => by rw [s0] at k; exact absurd k (by decide +kernel)) ⟨vp_in_nI (by omega) (by decide), wt2 (by rw [s0]) ?_⟩
    have q1 := dg_lo s1
    refine m_digitAt hn hg (by omega) s1 ⟨vp_in_nI (by decide) (by decide), vp_in_nI (by decide) (by decide), ?_⟩
    rw [nI_clamp (show 41 < 2 ^ 31 by decide), pk_us]
    refine wc (nI_leI (by decide) (by omega)) (fun k => hno ?_ _) (fun k => hok _ ?_ _ (hw.set 41 _))
    · rw [E, if_neg (by omega)]
    · rw [E, if_pos (by omega)]
  all_goals
    have nl := nm_lo s0
    have nb := of_decide_eq_true s0
    refine wf2 (fun k => by have := (nI_eq (by omega) (by decide)).mp k; omega) ⟨vp_in_nI (by omega) (by decide), wf2 (fun k => by have := (nI_eq (by omega) (by decide)).mp k; omega) ⟨vp_in_nI (by omega) (by decide), ?_⟩⟩
    rw [pk_sub nl.1]
    have E : eff L h a p = if L a - 97 < h 42 then (if L (a + 1) = 58 then (if L (a + 2) - 48 ≤ 5 then some (upN (upN h (L a - 97) (L (a + 2) - 48)) (8 + (L a - 97)) (L (a + 3) - 48)) else none) else if L (a + 1) = 33 then some (upN h 40 (h 40 ^^^ 2 ^ (L a - 97))) else chR L h a ((p - a) / 2)) else none := by unfold eff; rw [if_neg (by omega), if_neg (by omega)]
    refine m_isClaim hw H (fun c hc ec => ?_) (fun q => wt2 rfl (hno (by rw [E, if_neg (fun k => q ⟨_, k, rfl⟩)]) _))
    have ec2 := (nI_eq (by omega) (by omega)).mp ec
    rw [if_pos (show L a - 97 < h 42 by omega)] at E
    refine wf2 n1_0 ⟨vp_in_nI (by omega) (by decide), ?_⟩
  · rw [if_pos s1] at E
    refine wt2 (by rw [s1]) ?_
    refine m_digitAt hn hg (by omega) s2 (m_digitAt hn hg (by omega) s3 ?_)
    have q2 := dg_lo s2
    have q3 := dg_lo s3
    unfold wp_X11_becomes
    rw [nI_add, nI_add, Nat.zero_add]
    refine wc (nI_leI (by omega) (by decide)) (fun z => ⟨vp_in_nI (by omega) (by decide), vp_in_nI (by omega) (by decide), Or.inr rfl, ?_⟩) (fun z => ⟨Or.inl rfl, hno ?_ _⟩)
    · rw [nI_clamp (show L a - 97 < 2 ^ 31 by omega), nI_clamp (show 8 + (L a - 97) < 2 ^ 31 by omega)]
      exact hok _ (by rw [E, if_pos z]) _ ((hw.set _ _).set _ _)
    · rw [E, if_neg z]
  · rw [if_neg (by omega), if_pos s1] at E
    refine wf2 (fun k => by rw [s1] at k; exact absurd k (by decide +kernel)) ⟨vp_in_nI (by decide) (by decide), vp_in_nI (by omega) (by decide), wt2 (by rw [s1]) ?_⟩
    unfold wp_X11_does_160
    rw [nI_add a 1, nI_clamp (show a + 1 < 2 ^ 31 by omega), nI_clamp (show 40 < 2 ^ 31 by decide), hg (a + 1) la, hw 40 (by decide), shl_1 (by omega), nx_xor]
    exact ⟨vp_in_nI (by decide) (by decide), vp_in_nI (by omega) (by decide), wt (by rw [s1]) (hok _ E _ (hw.set 40 _))⟩
  · have k1 : lkB (L (a + 1)) = true := (s2 0 (by omega)).1
    have k2 := lk_ne k1
    have l1 := hL (a + 1) (by omega)
    rw [if_neg k2.1, if_neg k2.2, s9, show (a + 2 * J + 1 - a) / 2 = J by omega] at E
    have N58 : ¬ nI (L (a + 1)) = nI 58 := fun q => k2.1 ((nI_eq (by omega) (by decide)).mp q)
    have N33 : ¬ nI (L (a + 1)) = nI 33 := fun q => k2.2 ((nI_eq (by omega) (by decide)).mp q)
    refine wf2 N58 ⟨vp_in_nI (by decide) (by decide), vp_in_nI (by omega) (by decide), wf2 N33 ?_⟩
    unfold wp_X11_does_160
    rw [nI_add a 1, nI_clamp (show a + 1 < 2 ^ 31 by omega), nI_clamp (show 40 < 2 ^ 31 by decide), hg (a + 1) la, hw 40 (by decide), nx_xor, Nat.xor_zero]
    refine ⟨vp_in_nI (by decide) (by decide), vp_in_nI (by omega) (by decide), wf N33 ?_⟩
    have hw2 : ag 43 (upd gw 40 (nI (h 40))) h := fun j hj => by
      by_cases q : j = 40
      · subst q; rw [pk_us]
      · rw [pk_un q]; exact hw j hj
    refine m_links hn hg hL hw2 H (by omega) (by rw [← s9]; exact h59) s0 (by omega) s2 (fun h' q gw q2 => ?_) (fun q gw => ?_)
    · exact wf n1_0 (hok h' (by rw [s9]; exact E.trans q) gw q2)
    · exact wt rfl (hno (by rw [s9]; exact E.trans q) gw)
end DOE
