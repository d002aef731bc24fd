/-! speakers, figures, what comes -/
def clm (h : Nat → Nat) (s n : Nat) : Nat := bs (fun c => decide (h (16 + c) = s)) n
def clO (h : Nat → Nat) (s : Nat) : Nat := clm h s (h 42)
theorem clm_s (h : Nat → Nat) (s n : Nat) : clm h s (n + 1) = clm h s n ||| (if decide (h (16 + n) = s) then 2 ^ n else 0) := rfl
theorem clO_lt {h : Nat → Nat} (H : hv h) (s : Nat) : clO h s < 256 := Nat.lt_of_lt_of_le (bs_lt _ _) (pw_le H.1)
def spT (h : Nat → Nat) (s : Nat) : Bool := !decide (clO h s = 0)
def gfg (h : Nat → Nat) (t : Nat) : Nat → Nat
  | 0 => 0
  | c + 1 => if t.testBit c = true ∧ gfg h t c < h (8 + c) then h (8 + c) else gfg h t c
theorem gfg_s (h : Nat → Nat) (t c : Nat) : gfg h t (c + 1) = if t.testBit c = true ∧ gfg h t c < h (8 + c) then h (8 + c) else gfg h t c := rfl
theorem gfg_le {h : Nat → Nat} (H : hv h) (t : Nat) : ∀ n, n ≤ 8 → gfg h t n ≤ 9
  | 0, _ => Nat.zero_le _
  | n + 1, hn => by
    rw [gfg_s]
    split
    · exact H.fg (by omega)
    · exact gfg_le H t n (by omega)
theorem cnt_mid {p : Nat → Bool} : ∀ n i, i < cnt p n → ∃ s, s < n ∧ p s = true ∧ cnt p s = i
  | 0, i, h => absurd h (Nat.not_lt_zero i)
  | n + 1, i, h => by
    rw [cnt] at h
    by_cases q : i < cnt p n
    · obtain ⟨s, s1, s2, s3⟩ := cnt_mid n i q
      exact ⟨s, by omega, s2, s3⟩
    · cases z : p n
      · rw [z] at h; exact absurd h q
      · rw [z] at h
        have : i < cnt p n + 1 := h
        exact ⟨n, Nat.lt_succ_self n, z, by omega⟩
theorem cnt_mono {p : Nat → Bool} {n : Nat} : ∀ m, n ≤ m → cnt p n ≤ cnt p m
  | 0, h => by rw [show n = 0 by omega]; exact Nat.le_refl _
  | m + 1, h => by
    by_cases e : n = m + 1
    · rw [e]; exact Nat.le_refl _
    · have := cnt_mono (p := p) m (show n ≤ m by omega)
      rw [cnt]
      omega
theorem cnt_t {p : Nat → Bool} {s : Nat} (h : p s = true) : cnt p (s + 1) = cnt p s + 1 := by rw [cnt, h]; rfl
theorem cnt_f {p : Nat → Bool} {s : Nat} (h : p s = false) : cnt p (s + 1) = cnt p s := by rw [cnt, h]; rfl
section SPK
variable {h : Nat → Nat} {post : Int32 → Prop}
theorem s_claimsOf (H : hv h) {s : Nat} (hs : s < 2 ^ 31) (hp : post (nI (clO h s))) : wp_X3_claimsOf post (nI (h 42)) (pL (fun c => h (16 + c))) (nI s) := by
  have h8 := H.1
  unfold wp_X3_claimsOf
  refine loop_0 (fun n c v => wp_X3_claimsOf_4 post (nI (h 42)) (pL (fun c => h (16 + c))) (nI s) n v (nI c)) (fun c v => v = nI (clm h s c)) (h 42) _ rfl ?_ ?_
  · rintro n v rfl
    show wp_X3_claimsOf_4 _ _ _ _ _ _ _
    unfold wp_X3_claimsOf_4
    exact wt (nI_le (Nat.le_refl _) (by omega)) hp
  · rintro n c v hc rfl ih
    show wp_X3_claimsOf_4 _ _ _ _ _ _ _
    unfold wp_X3_claimsOf_4
    refine wf (nI_ge hc (by omega)) ?_
    rw [nS c, shl_1 (by omega), nx_or]
    refine s_speakerOf H.r_sp (by omega) ?_
    have := H.sp (show c < 8 by omega)
    refine wc2 (nI_eq (by omega) hs) (fun q => ih _ ?_) (fun q => ih _ ?_)
    · rw [clm_s, decide_eq_true q]; rfl
    · rw [clm_s, decide_eq_false q]; exact congrArg nI (Nat.or_zero _).symm
theorem spT_c (H : hv h) (s : Nat) {A B : Prop} (hf : spT h s = false → A) (ht : spT h s = true → B) : (nI (clO h s) = 0 → A) ∧ (¬ nI (clO h s) = 0 → B) := by
  refine wc (nI_eq0 (by have := clO_lt H s; omega)) (fun q => hf ?_) (fun q => ht ?_)
  · unfold spT; rw [decide_eq_true q]; rfl
  · unfold spT; rw [decide_eq_false q]; rfl
theorem s_speakersThere (H : hv h) (hp : post (nI (cnt (spT h) 10))) : wp_X3_speakersThere post (nI (h 42)) (pL (fun c => h (16 + c))) := by
  unfold wp_X3_speakersThere
  refine loop_0 (fun n s v => wp_X3_speakersThere_4 post (nI (h 42)) (pL (fun c => h (16 + c))) n v (nI s)) (fun s v => v = nI (cnt (spT h) s)) 10 _ rfl ?_ ?_
  · rintro n v rfl
    show wp_X3_speakersThere_4 _ _ _ _ _ _
    unfold wp_X3_speakersThere_4
    exact wt (nI_le (Nat.le_refl _) (by decide)) hp
  · rintro n s v hs rfl ih
    show wp_X3_speakersThere_4 _ _ _ _ _ _
    unfold wp_X3_speakersThere_4
    refine wf (nI_ge hs (by decide)) ?_
    rw [nS s, nS]
    refine s_claimsOf H (by omega) ?_
    refine spT_c H s (fun q => ih _ ?_) (fun q => ih _ ?_)
    · rw [cnt_f q]
    · rw [cnt_t q]
theorem s_speakerAt (H : hv h) {x : Int32} (ht : ∀ i s, x = nI i → s < 10 → spT h s = true → cnt (spT h) s = i → post (nI s)) (hf : (¬ ∃ i, i < cnt (spT h) 10 ∧ x = nI i) → post (-1)) : wp_X3_speakerAt post (nI (h 42)) (pL (fun c => h (16 + c))) x := by
  unfold wp_X3_speakerAt
  refine loop_0 (fun n s v => wp_X3_speakerAt_4 post (nI (h 42)) (pL (fun c => h (16 + c))) x n v (nI s)) (fun s v => v = nI (cnt (spT h) s) ∧ ∀ t, t < s → spT h t = true → ¬ nI (cnt (spT h) t) = x) 10 _ ⟨rfl, fun t ht => absurd ht (Nat.not_lt_zero t)⟩ ?_ ?_
  · rintro n v ⟨rfl, i1⟩
    show wp_X3_speakerAt_4 _ _ _ _ _ _ _
    unfold wp_X3_speakerAt_4
    refine wt (nI_le (Nat.le_refl _) (by decide)) (hf ?_)
    rintro ⟨i, hi, rfl⟩
    obtain ⟨t, t1, t2, t3⟩ := cnt_mid 10 i hi
    exact i1 t t1 t2 (by rw [t3])
  · rintro n s v hs ⟨rfl, i1⟩ ih
    show wp_X3_speakerAt_4 _ _ _ _ _ _ _
    unfold wp_X3_speakerAt_4
    refine wf (nI_ge hs (by decide)) ?_
    rw [nS s, nS]
    refine s_claimsOf H (by omega) ?_
    refine spT_c H s (fun q => ih _ ⟨by rw [cnt_f q], fun t ht2 tt => ?_⟩) (fun q => ⟨fun k => ih _ ⟨by rw [cnt_t q], fun t ht2 tt => ?_⟩, fun k => ht _ s k.symm hs q rfl⟩)
    · by_cases e : t = s
      · subst e; rw [q] at tt; cases tt
      · exact i1 t (by omega) tt
    · by_cases e : t = s
      · subst e; exact k
      · exact i1 t (by omega) tt
theorem s_greatestFigure (H : hv h) {t : Nat} (ht : t < 256) (hp : post (nI (gfg h t (h 42)))) : wp_X3_greatestFigure post (nI (h 42)) (pL (fun c => h (8 + c))) (nI t) := by
  have h8 := H.1
  unfold wp_X3_greatestFigure
  refine loop_0 (fun n c v => wp_X3_greatestFigure_4 post (nI (h 42)) (pL (fun c => h (8 + c))) (nI t) n v (nI c)) (fun c v => v = nI (gfg h t c)) (h 42) _ rfl ?_ ?_
  · rintro n v rfl
    show wp_X3_greatestFigure_4 _ _ _ _ _ _ _
    unfold wp_X3_greatestFigure_4
    exact wt (nI_le (Nat.le_refl _) (by omega)) hp
  · rintro n c v hc rfl ih
    show wp_X3_greatestFigure_4 _ _ _ _ _ _ _
    unfold wp_X3_greatestFigure_4
    refine wf (nI_ge hc (by omega)) ?_
    rw [nS c]
    refine s_contains ht (by omega) ?_
    refine zc (fun z => ih _ ?_) (fun z => ?_)
    · rw [gfg_s, if_neg (fun k => by rw [z] at k; cases k.1)]
    · refine s_figureOf H.r_fg (by omega) ?_
      have l1 := gfg_le H t c (by omega)
      have l2 := H.fg (show c < 8 by omega)
      refine ih _ ?_
      by_cases q : gfg h t c < h (8 + c)
      · rw [if_pos (nI_lt q (by omega)), gfg_s, if_pos ⟨z, q⟩]
      · rw [if_neg (nI_nlt (by omega) (by omega)), gfg_s, if_neg (fun k => q k.2)]
theorem m_claimsOf {gw : Nat → Int32} (hw : ag 43 gw h) (H : hv h) {s : Nat} (hs : s < 2 ^ 31) (hp : post (nI (clO h s))) : wp_X11_claimsOf post gw (nI s) := by
  have h8 := H.1
  unfold wp_X11_claimsOf
  refine loop_0 (fun n c v => wp_X11_claimsOf_4 post gw (nI s) n v (nI c)) (fun c v => v = nI (clm h s c)) (h 42) _ rfl ?_ ?_
  · rintro n v rfl
    show wp_X11_claimsOf_4 _ _ _ _ _ _
    unfold wp_X11_claimsOf_4
    refine ⟨vp_in_nI (by decide) (by decide), ?_⟩
    rw [hw.rd (by decide) (by decide)]
    exact wt (nI_le (Nat.le_refl _) (by omega)) hp
  · rintro n c v hc rfl ih
    show wp_X11_claimsOf_4 _ _ _ _ _ _
    unfold wp_X11_claimsOf_4
    refine ⟨vp_in_nI (by decide) (by decide), ?_⟩
    rw [hw.rd (by decide) (by decide), nS c, shl_1 (by omega), nx_or, nx_or, nI_add 16 c, nI_clamp (by omega), hw (16 + c) (by omega)]
    refine wf (nI_ge hc (by omega)) ⟨vp_in_nI (by omega) (by decide), ?_⟩
    have := H.sp (show c < 8 by omega)
    refine wc2 (nI_eq (by omega) hs) (fun q => ih _ ?_) (fun q => ih _ ?_)
    · rw [clm_s, decide_eq_true q]; rfl
    · rw [clm_s, decide_eq_false q]; rfl
theorem m_speakersAll {gw : Nat → Int32} (hw : ag 43 gw h) (H : hv h) (hp : post (nI (cnt (spT h) 10))) : wp_X11_speakersAll post gw := by
  unfold wp_X11_speakersAll
  refine loop_0 (fun n s v => wp_X11_speakersAll_4 post gw n v (nI s)) (fun s v => v = nI (cnt (spT h) s)) 10 _ rfl ?_ ?_
  · rintro n v rfl
    show wp_X11_speakersAll_4 _ _ _ _ _
    unfold wp_X11_speakersAll_4
    exact wt (nI_le (Nat.le_refl _) (by decide)) hp
  · rintro n s v hs rfl ih
    show wp_X11_speakersAll_4 _ _ _ _ _
    unfold wp_X11_speakersAll_4
    refine wf (nI_ge hs (by decide)) ?_
    rw [nS s, nI_add, nS]
    refine m_claimsOf hw H (by omega) ?_
    refine spT_c H s (fun q => ih _ ?_) (fun q => ih _ ?_)
    · rw [cnt_f q]; rfl
    · rw [cnt_t q]
theorem m_speakerAt {gw : Nat → Int32} (hw : ag 43 gw h) (H : hv h) {i s : Nat} (hs : s < 10) (hst : spT h s = true) (hi : cnt (spT h) s = i) (hp : post (nI s)) : wp_X11_speakerAt post gw (nI i) := by
  unfold wp_X11_speakerAt
  have ci := cnt_le (spT h) s
  refine loop_0 (fun n t v => wp_X11_speakerAt_4 post gw (nI i) n v (nI t)) (fun t v => v = nI (i - cnt (spT h) t)) s _ rfl ?_ ?_
  · rintro n v rfl
    show wp_X11_speakerAt_4 _ _ _ _ _ _
    unfold wp_X11_speakerAt_4
    refine m_claimsOf hw H (by omega) ?_
    refine spT_c H s (fun q => by rw [q] at hst; cases hst) (fun q => ?_)
    rw [hi, Nat.sub_self]
    exact wt (by decide +kernel) hp
  · rintro n t v ht rfl ih
    show wp_X11_speakerAt_4 _ _ _ _ _ _
    unfold wp_X11_speakerAt_4 wp_X11_speakerAt_16
    rw [nS t]
    have ct := cnt_mono (p := spT h) s (show t + 1 ≤ s by omega)
    refine m_claimsOf hw H (by omega) ?_
    refine spT_c H t (fun q => ?_) (fun q => ?_)
    · refine m_claimsOf hw H (by omega) ?_
      refine spT_c H t (fun q => ih _ ?_) (fun q2 => by rw [q] at q2; cases q2)
      rw [cnt_f q, pk_sub (Nat.zero_le _)]; rfl
    · rw [cnt_t q] at ct
      refine wf (nI_nle (by omega) (by omega)) ?_
      refine m_claimsOf hw H (by omega) ?_
      refine spT_c H t (fun q2 => by rw [q] at q2; cases q2) (fun q => ih _ ?_)
      rw [cnt_t q, pk_sub (by omega)]
      exact congrArg nI (by omega)
theorem m_greatestOf {gw : Nat → Int32} (hw : ag 43 gw h) (H : hv h) {t : Nat} (ht : t < 256) (hp : post (nI (gfg h t (h 42)))) : wp_X11_greatestOf post gw (nI t) := by
  have h8 := H.1
  unfold wp_X11_greatestOf
  refine loop_0 (fun n c v => wp_X11_greatestOf_4 post gw (nI t) n v (nI c)) (fun c v => v = nI (gfg h t c)) (h 42) _ rfl ?_ ?_
  · rintro n v rfl
    show wp_X11_greatestOf_4 _ _ _ _ _ _
    unfold wp_X11_greatestOf_4
    refine ⟨vp_in_nI (by decide) (by decide), ?_⟩
    rw [hw.rd (by decide) (by decide)]
    exact wt (nI_le (Nat.le_refl _) (by omega)) hp
  · rintro n c v hc rfl ih
    show wp_X11_greatestOf_4 _ _ _ _ _ _
    unfold wp_X11_greatestOf_4
    refine ⟨vp_in_nI (by decide) (by decide), ?_⟩
    rw [hw.rd (by decide) (by decide), nS c, nI_add 8 c, nI_clamp (by omega), hw (8 + c) (by omega)]
    refine wf (nI_ge hc (by omega)) ?_
    refine m_has (by omega) (by omega) ?_
    refine zc (fun z => ih _ ?_) (fun z => ⟨vp_in_nI (by omega) (by decide), ?_⟩)
    · rw [gfg_s, if_neg (fun k => by rw [z] at k; cases k.1)]
    · have l1 := gfg_le H t c (by omega)
      have l2 := H.fg (show c < 8 by omega)
      refine wc (nI_leI (by omega) (by omega)) (fun q => ih _ ?_) (fun q => ⟨vp_in_nI (by omega) (by decide), ih _ ?_⟩)
      · rw [gfg_s, if_neg (fun k => by omega)]
      · rw [gfg_s, if_pos ⟨z, by omega⟩]
theorem sum8_ge {f : Nat → Nat} {n : Nat} : ∀ m, n ≤ m → (∀ i, n ≤ i → i < m → f i = 0) → sum8 f m = sum8 f n
  | 0, hm, _ => by rw [show n = 0 by omega]
  | m + 1, hm, hz => by
    by_cases e : n = m + 1
    · rw [e]
    · rw [sum8, hz m (by omega) (Nat.lt_succ_self _)]
      exact sum8_ge m (by omega) (fun i h1 h2 => hz i h1 (by omega))
theorem m_onesIn {gw : Nat → Int32} (hw : ag 43 gw h) (H : hv h) {b : Nat} (hb : b ≤ 32) (hr : ∀ c, c < 8 → h (b + c) < 256) (hz : ∀ c, c < 8 → h 42 ≤ c → h (b + c) = 0) (hp : post (nI (sum8 (fun c => pc (h (b + c)) 8) 8))) : wp_X11_onesIn post gw (nI b) := by
  have h8 := H.1
  unfold wp_X11_onesIn
  rw [sum8_ge 8 h8 (fun i h1 h2 => by rw [hz i h2 h1]; exact pc_z 8)] at hp
  refine loop_0 (fun n c v => wp_X11_onesIn_4 post gw (nI b) n v (nI c)) (fun c v => v = nI (sum8 (fun c => pc (h (b + c)) 8) c)) (h 42) _ rfl ?_ ?_
  · rintro n v rfl
    show wp_X11_onesIn_4 _ _ _ _ _ _
    unfold wp_X11_onesIn_4
    refine ⟨vp_in_nI (by decide) (by decide), ?_⟩
    rw [hw.rd (by decide) (by decide)]
    exact wt (nI_le (Nat.le_refl _) (by omega)) hp
  · rintro n c v hc rfl ih
    show wp_X11_onesIn_4 _ _ _ _ _ _
    unfold wp_X11_onesIn_4
    refine ⟨vp_in_nI (by decide) (by decide), ?_⟩
    rw [hw.rd (by decide) (by decide), nS c, nI_add b c, nI_clamp (by omega), hw (b + c) (by omega)]
    refine wf (nI_ge hc (by omega)) ⟨vp_in_nI (by omega) (by decide), ?_⟩
    have := hr c (by omega)
    refine m_ones (by omega) ?_
    rw [nI_add]
    exact ih _ rfl
end SPK
/-! one more claim -/
def adn (h : Nat → Nat) (k f s j : Nat) : Nat := if j = 42 then h 42 + 1 else if j = 40 then h 40 ||| 2 ^ h 42 else if j = h 42 then k else if j = 8 + h 42 then f else if j = 16 + h 42 then s else h j
section ADN
variable {h : Nat → Nat} {k f s : Nat}
theorem adn_42 : adn h k f s 42 = h 42 + 1 := if_pos rfl
theorem adn_40 : adn h k f s 40 = h 40 ||| 2 ^ h 42 := by unfold adn; rw [if_neg (by decide), if_pos rfl]
theorem adn_c (h7 : h 42 < 8) {c : Nat} (hc : c < 8) : adn h k f s c = if c = h 42 then k else h c := by
  unfold adn
  rw [if_neg (by omega), if_neg (by omega)]
  by_cases e : c = h 42
  · rw [if_pos e, if_pos e]
  · rw [if_neg e, if_neg e, if_neg (by omega), if_neg (by omega)]
theorem adn_8 (h7 : h 42 < 8) {c : Nat} (hc : c < 8) : adn h k f s (8 + c) = if c = h 42 then f else h (8 + c) := by
  unfold adn
  rw [if_neg (by omega), if_neg (by omega), if_neg (by omega)]
  by_cases e : c = h 42
  · rw [if_pos e, if_pos (by omega)]
  · rw [if_neg e, if_neg (by omega), if_neg (by omega)]
theorem adn_16 (h7 : h 42 < 8) {c : Nat} (hc : c < 8) : adn h k f s (16 + c) = if c = h 42 then s else h (16 + c) := by
  unfold adn
  rw [if_neg (by omega), if_neg (by omega), if_neg (by omega), if_neg (by omega)]
  by_cases e : c = h 42
  · rw [if_pos e, if_pos (by omega)]
  · rw [if_neg e, if_neg (by omega)]
theorem adn_24 (h7 : h 42 < 8) {j : Nat} (hj : 24 ≤ j) (h1 : j ≠ 42) (h2 : j ≠ 40) : adn h k f s j = h j := by
  unfold adn
  rw [if_neg h1, if_neg h2, if_neg (by omega), if_neg (by omega), if_neg (by omega)]
theorem adn_ok (H : hv h) (h7 : h 42 < 8) (hk : k ≤ 5) (hf : f ≤ 9) (hs : s ≤ 9) : hv (adn h k f s) := by
  obtain ⟨h1, h2, h3, h4⟩ := H
  have pl : 2 ^ h 42 < 2 ^ (h 42 + 1) := pw_lt (Nat.lt_succ_self _)
  refine ⟨by rw [adn_42]; omega, by rw [adn_24 h7 (by omega) (by omega) (by omega)]; exact h2, by rw [adn_40, adn_42]; exact Nat.or_lt_two_pow (by omega) pl, fun c hc => ?_⟩
  obtain ⟨q1, q2, q3, q4⟩ := h4 c hc
  rw [adn_c h7 hc, adn_8 h7 hc, adn_16 h7 hc, adn_24 h7 (j := 24 + c) (by omega) (by omega) (by omega), adn_24 h7 (j := 32 + c) (by omega) (by omega) (by omega), adn_42]
  by_cases e : c = h 42
  · rw [if_pos e, if_pos e, if_pos e]
    exact ⟨⟨hk, hf, hs⟩, ⟨by omega, by omega⟩, q3, fun q => by omega⟩
  · rw [if_neg e, if_neg e, if_neg e]
    exact ⟨q1, ⟨by omega, by omega⟩, q3, fun q => q4 (by omega)⟩
theorem s_add {sz hr md : Int32} {ca fi vo at_ su : Int64} (e : HC h sz hr md ca fi vo at_ su) (h7 : h 42 < 8) (hk : k ≤ 5) (hf : f ≤ 9) (hs : s ≤ 9) {post : Int32 → Int32 → Int32 → Int64 → Int64 → Int64 → Prop} (hp : ∀ sz hr ca fi vo, HC (adn h k f s) sz hr md ca fi vo at_ su → post (nI (h 42)) sz hr ca fi vo) : wp_X3_add post sz hr ca fi vo (nI k) (nI f) (nI s) := by
  obtain ⟨rfl, rfl, rfl, rfl, rfl, rfl, rfl, rfl⟩ := e
  unfold wp_X3_add
  refine s_with h7 (by omega) (s_with h7 (by omega) (s_with h7 (by omega) ?_))
  rw [shl_1 (by omega), nx_or, nI_add]
  have up : ∀ (b x : Nat), (∀ c, c < 8 → adn h k f s (b + c) = if c = h 42 then x else h (b + c)) → pL (upN (fun c => h (b + c)) (h 42) x) = pL (fun c => adn h k f s (b + c)) := fun b x q => pL_congr (fun c hc => by
    rw [q c hc]
    rfl)
  have u0 : pL (upN (fun c => h c) (h 42) k) = pL (fun c => adn h k f s c) := pL_congr (fun c hc => by
    rw [adn_c h7 hc]
    rfl)
  refine hp _ _ _ _ _ ⟨by rw [adn_42], by rw [adn_40], by rw [adn_24 h7 (by omega) (by omega) (by omega)], u0, up 8 f (fun c hc => adn_8 h7 hc), up 16 s (fun c hc => adn_16 h7 hc), pL_congr (fun c hc => (adn_24 h7 (by omega) (by omega) (by omega)).symm), pL_congr (fun c hc => (adn_24 h7 (by omega) (by omega) (by omega)).symm)⟩
theorem m_comes_no {gw : Nat → Int32} (hw : ag 43 gw h) {x y z : Int32} {post : Int32 → (Nat → Int32) → Prop} (hn : nI 5 < x ∨ h 42 = 8) (hp : post (nI 0) gw) : wp_X11_comes post gw x y z := by
  unfold wp_X11_comes
  refine ⟨fun _ => hp, fun q => ⟨vp_in_nI (by decide) (by decide), ?_⟩⟩
  rw [hw.rd (by decide) (by decide)]
  rcases hn with k | k
  · exact absurd k q
  · exact wt2 (by rw [k]) hp
theorem m_comes {gw : Nat → Int32} (hw : ag 43 gw h) (H : hv h) (h7 : h 42 < 8) (hk : k ≤ 5) (hf : f ≤ 9) (hs : s ≤ 9) {post : Int32 → (Nat → Int32) → Prop} (hp : ∀ gw, ag 43 gw (adn h k f s) → post (nI 1) gw) : wp_X11_comes post gw (nI k) (nI f) (nI s) := by
  unfold wp_X11_comes
  refine wf (nI_nlt (by omega) (by omega)) ⟨vp_in_nI (by decide) (by decide), ?_⟩
  rw [hw.rd (by decide) (by decide)]
  refine wf2 (fun c => by have := (nI_eq (by omega) (by omega)).mp c; omega) ?_
  rw [nI_add, nI_add, nI_add, nI_add, nI_add, Nat.zero_add]
  refine ⟨vp_in_nI (by decide) (by decide), vp_in_nI (by omega) (by decide), vp_in_nI (by omega) (by decide), vp_in_nI (by omega) (by decide), vp_in_nI (by omega) (by decide), vp_in_nI (by omega) (by decide), vp_in_nI (by decide) (by decide), vp_in_nI (by decide) (by decide), vp_in_nI (by decide) (by decide), vp_in_nI (by decide) (by decide), ?_⟩
  rw [nI_clamp (show h 42 < 2 ^ 31 by omega), nI_clamp (show 8 + h 42 < 2 ^ 31 by omega), nI_clamp (show 16 + h 42 < 2 ^ 31 by omega), nI_clamp (show 24 + h 42 < 2 ^ 31 by omega), nI_clamp (show 32 + h 42 < 2 ^ 31 by omega), nI_clamp (show 40 < 2 ^ 31 by omega), nI_clamp (show 42 < 2 ^ 31 by omega)]
  have e5 := ((((hw.set (h 42) k).set (8 + h 42) f).set (16 + h 42) s).set (24 + h 42) 0).set (32 + h 42) 0
  have v40 := e5 40 (by decide)
  rw [upN_n _ (by omega), upN_n _ (by omega), upN_n _ (by omega), upN_n _ (by omega), upN_n _ (by omega)] at v40
  rw [v40, shl_1 (by omega), nx_or]
  have e6 := e5.set 40 (h 40 ||| 2 ^ h 42)
  have v42 := e6 42 (by decide)
  rw [upN_n _ (by omega), upN_n _ (by omega), upN_n _ (by omega), upN_n _ (by omega), upN_n _ (by omega), upN_n _ (by omega)] at v42
  rw [v42, nI_add]
  refine hp _ ((e6.set 42 (h 42 + 1)).cg (fun j hj => ?_))
  have z4 := (H.2.2.2 (h 42) h7).2.2.2 (Nat.le_refl _)
  by_cases e42 : j = 42
  · subst e42; rw [upN_s, adn_42]
  rw [upN_n _ e42]
  by_cases e40 : j = 40
  · subst e40; rw [upN_s, adn_40]
  rw [upN_n _ e40]
  by_cases e32 : j = 32 + h 42
  · subst e32; rw [upN_s, adn_24 h7 (by omega) (by omega) (by omega), z4.2.2]
  rw [upN_n _ e32]
  by_cases e24 : j = 24 + h 42
  · subst e24; rw [upN_s, adn_24 h7 (by omega) (by omega) (by omega), z4.2.1]
  rw [upN_n _ e24]
  unfold adn
  rw [if_neg e42, if_neg e40]
  by_cases e16 : j = 16 + h 42
  · subst e16; rw [upN_s, if_neg (by omega), if_neg (by omega), if_pos rfl]
  rw [upN_n _ e16, if_neg e16]
  by_cases e8 : j = 8 + h 42
  · subst e8; rw [upN_s, if_neg (by omega), if_pos rfl]
  rw [upN_n _ e8, if_neg e8]
  by_cases e0 : j = h 42
  · subst e0; rw [upN_s, if_pos rfl]
  rw [upN_n _ e0, if_neg e0]
end ADN
