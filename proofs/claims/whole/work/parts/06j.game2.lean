/-! the game: class's whole play, the reference's depth, answered, waysAt -/
theorem dfr_in {h : Nat → Nat} {d q : Nat} (e : (dfr h d).testBit q = true) : hd h q = true := by
  cases z : hd h q
  · unfold dfr at e
    rw [trn_tb, dft_un z] at e
    simp at e
  · rfl
def plP (h : Nat → Nat) (c s : Nat) : Bool := s.testBit c && decide (dif s (h 40) = 0)
theorem plP_up (h : Nat → Nat) (c : Nat) : upP (dfr h) (plP h c) := by
  intro s d q hs hP hd8 hq hz
  unfold plP at hP ⊢
  rw [Bool.and_eq_true] at hP ⊢
  have l0 : dfr h d < 256 := dfr_r8 h d hd8
  rw [dif_tb l0, Bool.and_eq_true] at hz
  refine ⟨by rw [Nat.testBit_or, hP.1]; rfl, ?_⟩
  have e1 := of_decide_eq_true hP.2
  refine decide_eq_true ((dif_0 (or_lt8 hs (pw_lt8 hq))).mpr (fun i hi hb => ?_))
  rw [Nat.testBit_or, Bool.or_eq_true, tb_pw] at hb
  rcases hb with hb | hb
  · exact (dif_0 hs).mp e1 i hi hb
  · have := of_decide_eq_true hb
    subst this
    exact dfr_in hz.1
theorem s_game_reckon {dr : Nat → Nat} {P : Nat → Bool} (hd8 : r8 dr) (hup : upP dr P) {s : Nat} (hs : s < 256) (hPs : P s = true) {gd gw : Nat → Int32} (td : tbl P (s + 1) gd (gD dr)) (tw : tbl P (s + 1) gw (gW dr)) {post : (Nat → Int32) → (Nat → Int32) → Prop} (hp : ∀ gd gw, tbl P s gd (gD dr) → tbl P s gw (gW dr) → post gd gw) : wp_X2_reckon post gd gw (pL dr) (nI s) := by
  unfold wp_X2_reckon
  refine lo2 (fun n l gd gw => wp_X2_reckon_2 post (pL dr) (nI s) n (nI l) gd gw) (fun l gd gw => (tbl P (s + 1) gd (gD dr) ∧ ∀ c, c < l → s.testBit c = true → gd (8 * s + c) = nI (gD dr s c)) ∧ (tbl P (s + 1) gw (gW dr) ∧ ∀ c, c < l → s.testBit c = true → gw (8 * s + c) = nI (gW dr s c))) 8 _ _ ⟨⟨td, fun c hc => absurd hc (Nat.not_lt_zero c)⟩, ⟨tw, fun c hc => absurd hc (Nat.not_lt_zero c)⟩⟩ ?_ ?_
  · rintro n gd gw ⟨⟨i1, i2⟩, ⟨i3, i4⟩⟩
    show wp_X2_reckon_2 _ _ _ _ _ _ _
    unfold wp_X2_reckon_2
    refine wt (nI_le (Nat.le_refl _) (by decide)) (hp _ _ (fun t c ht t2 tp hc tb => ?_) (fun t c ht t2 tp hc tb => ?_))
    · by_cases e : t = s
      · subst e; exact i2 c hc tb
      · exact i1 t c (by omega) t2 tp hc tb
    · by_cases e : t = s
      · subst e; exact i4 c hc tb
      · exact i3 t c (by omega) t2 tp hc tb
  · rintro n l gd gw hl ⟨⟨i1, i2⟩, ⟨i3, i4⟩⟩ ih
    show wp_X2_reckon_2 _ _ _ _ _ _ _
    unfold wp_X2_reckon_2
    refine wf (nI_ge hl (by decide)) ?_
    refine s_placeOf hs hl ?_
    have hpl : 8 * s + l < 2048 := by omega
    refine wf (nI_pos (by omega)) (wf (nI_ge hpl (by decide)) (wf (nI_ge hpl (by decide)) ?_))
    unfold wp_X2_reckon_41
    refine wf (by decide +kernel) ?_
    rw [nS]
    refine s_contains hs hl ?_
    refine zc (fun z => ih _ _ ⟨⟨i1, fun c hc tb => ?_⟩, ⟨i3, fun c hc tb => ?_⟩⟩) (fun z => ?_)
    · by_cases e : c = l
      · subst e; rw [z] at tb; exact absurd tb (by decide)
      · exact i2 c (by omega) tb
    · by_cases e : c = l
      · subst e; rw [z] at tb; exact absurd tb (by decide)
      · exact i4 c (by omega) tb
    · refine s_depthBehind hd8 hup hs hPs (Nat.le_refl _) i1 hl ⟨vp_in_nI hpl (by decide), ?_⟩
      refine s_waysBehind hd8 hup hs hPs (Nat.le_refl _) i3 hl ⟨vp_in_nI hpl (by decide), ?_⟩
      rw [nI_clamp (by omega)]
      refine ih _ _ ⟨⟨fun t c ht t2 tp hc tb => ?_, fun c hc tb => ?_⟩, ⟨fun t c ht t2 tp hc tb => ?_, fun c hc tb => ?_⟩⟩
      · rw [pk_un (by omega)]; exact i1 t c ht t2 tp hc tb
      · by_cases e : c = l
        · subst e; exact pk_us
        · rw [pk_un (by omega)]; exact i2 c (by omega) tb
      · rw [pk_un (by omega)]; exact i3 t c ht t2 tp hc tb
      · by_cases e : c = l
        · subst e; exact pk_us
        · rw [pk_un (by omega)]; exact i4 c (by omega) tb
theorem tbl_skip {P : Nat → Bool} {s : Nat} {g : Nat → Int32} {F : Nat → Nat → Nat} (t : tbl P (s + 1) g F) (h : P s = false) : tbl P s g F := fun x c hx x2 xp hc tb => by
  by_cases e : x = s
  · subst e; rw [h] at xp; exact absurd xp (by decide)
  · exact t x c (by omega) x2 xp hc tb
theorem s_play {h : Nat → Nat} (H : hv h) {c : Nat} (hc : c < 8) {gd gw : Nat → Int32} {a : Int64} {post : (Nat → Int32) → (Nat → Int32) → Int64 → Prop} (hp : ∀ gd gw, tbl (plP h c) 0 gd (gD (dfr h)) → tbl (plP h c) 0 gw (gW (dfr h)) → post gd gw (pL (dfr h))) : wp_X2_play post gd gw a (nI c) (nI (h 40)) (pL (dfr h)) := by
  unfold wp_X2_play
  have key : ∀ k, k ≤ 256 → ∀ gd gw, tbl (plP h c) k gd (gD (dfr h)) → tbl (plP h c) k gw (gW (dfr h)) → wp_X2_play_10 post (nI c) (nI (h 40)) (pL (dfr h)) (k + 1) (nI k + (-1 : Int32)) gd gw (pL (dfr h)) := by
    intro k
    induction k with
    | zero =>
      intro _ gd gw t1 t2
      unfold wp_X2_play_10
      exact wt (by decide +kernel) (hp _ _ t1 t2)
    | succ s ih =>
      intro hk gd gw t1 t2
      have hs : s < 256 := by omega
      rw [m1_nI]
      unfold wp_X2_play_10
      refine wf (nI_pos (by omega)) ?_
      refine s_contains hs hc ?_
      refine zc (fun z => ih (by omega) gd gw (tbl_skip t1 ?_) (tbl_skip t2 ?_)) (fun z => ?_)
      · unfold plP; rw [z]; rfl
      · unfold plP; rw [z]; rfl
      · rw [nx_dif hs]
        refine wc2 (nI_eq0 (by have := dif_lt hs (h 40); omega)) (fun e => ?_) (fun e => ih (by omega) gd gw (tbl_skip t1 ?_) (tbl_skip t2 ?_))
        · refine s_game_reckon (dfr_r8 h) (plP_up h c) hs ?_ t1 t2 (fun gd gw u1 u2 => ih (by omega) gd gw u1 u2)
          unfold plP; rw [z, decide_eq_true e]; rfl
        · unfold plP; rw [decide_eq_false e, Bool.and_false]
        · unfold plP; rw [decide_eq_false e, Bool.and_false]
  exact ⟨257, key 256 (Nat.le_refl _) gd gw (fun s _ a b => by omega) (fun s _ a b => by omega)⟩
theorem pw_or {c : Nat} : (2 ^ c : Nat).testBit c = true := Nat.testBit_two_pow_self
theorem plP_1 {h : Nat → Nat} (H : hv h) {c : Nat} (hc : c < 8) (e : hd h c = true) : plP h c (2 ^ c) = true := by
  unfold plP
  rw [pw_or, Bool.true_and]
  refine decide_eq_true ((dif_0 (pw_lt8 hc)).mpr (fun i hi hb => ?_))
  rw [tb_pw] at hb
  have := of_decide_eq_true hb
  subst this
  exact e
section GA2
variable {h : Nat → Nat} {g : Nat → Int32} {c : Nat}
theorem s_depth (H : hv h) (hc : c < 8) (e : hd h c = true) (t : tbl (plP h c) 0 g (gD (dfr h))) {post : Int32 → Prop} (hp : post (nI (gD (dfr h) (2 ^ c) c))) : wp_X2_depth post g (nI c) := by
  unfold wp_X2_depth
  rw [shl_1 (by omega)]
  exact s_depthAt (pw_lt8 hc) hc (t _ _ (Nat.zero_le _) (pw_lt8 hc) (plP_1 H hc e) hc pw_or) hp
theorem s_isWon (H : hv h) (hc : c < 8) (e : hd h c = true) (t : tbl (plP h c) 0 g (gD (dfr h))) {post : Int32 → Prop} (hp : post (zI (decide (0 < gD (dfr h) (2 ^ c) c)))) : wp_X2_isWon post g (nI c) := by
  unfold wp_X2_isWon
  have l := gD_le (dfr h) (2 ^ c) c
  refine s_depth H hc e t ?_
  refine zs3 ?_ hp
  rw [nI_le0 (by omega)]
  simp
theorem s_trees (H : hv h) (hc : c < 8) (e : hd h c = true) (t : tbl (plP h c) 0 g (gW (dfr h))) {post : Int32 → Prop} (hp : post (nI (gW (dfr h) (2 ^ c) c))) : wp_X2_trees post g (nI c) := by
  unfold wp_X2_trees
  rw [shl_1 (by omega)]
  exact s_waysAt (pw_lt8 hc) hc (t _ _ (Nat.zero_le _) (pw_lt8 hc) (plP_1 H hc e) hc pw_or) hp
def enc9b : Option (Nat × Nat) → Int32
  | none => -9
  | some b => nI b.1
theorem s_answerTo (H : hv h) (hc : c < 8) (e : hd h c = true) (t : tbl (plP h c) 0 g (gD (dfr h))) {d : Nat} (hd' : d < 8) {post : Int32 → Prop} (hp : post (enc9b (bst (gD (dfr h)) (dfr h) (2 ^ c) d))) : wp_X2_answerTo post g (pL (dfr h)) (nI c) (nI d) := by
  unfold wp_X2_answerTo
  rw [shl_1 (by omega)]
  refine s_best (dfr_r8 h) (plP_up h c) (pw_lt8 hc) (plP_1 H hc e) (Nat.zero_le _) t hd' ?_
  cases z : bst (gD (dfr h)) (dfr h) (2 ^ c) d with
  | none =>
    rw [z] at hp
    exact wf (show ¬ (0 : Int32) ≤ -1 by decide +kernel) hp
  | some b =>
    rw [z] at hp
    have := (bstp_in z).1
    exact wt (nI_pos' (show b.1 < 2 ^ 31 by omega)) hp
end GA2
/-! the reference's game -/
def encD : Nat → Int32
  | 0 => -9
  | n + 1 => nI (n + 1)
def memD (dr : Nat → Nat) (g : Nat → Int32) : Prop := ∀ s c, s < 256 → c < 8 → g (8 * s + c) = -1 ∨ g (8 * s + c) = encD (gD dr s c)
theorem bstp_ge {T : Nat → Nat → Nat} {dr : Nat → Nat} {s d n : Nat} : ∀ m, n ≤ m → (∀ i, n ≤ i → i < m → (dif (dr d) s).testBit i = false) → bstp T dr s d m = bstp T dr s d n
  | 0, hm, _ => by rw [show n = 0 by omega]
  | m + 1, hm, hz => by
    by_cases e : n = m + 1
    · rw [e]
    · rw [bstp, hz m (by omega) (Nat.lt_succ_self _)]
      simp only [Bool.false_and, Bool.false_eq_true, if_false]
      exact bstp_ge m (by omega) (fun i h1 h2 => hz i h1 (by omega))
theorem dbp_ge {T : Nat → Nat → Nat} {dr : Nat → Nat} {s c n : Nat} : ∀ m, n ≤ m → (∀ i, n ≤ i → i < m → (dr c).testBit i = false) → dbp T dr s c m = dbp T dr s c n
  | 0, hm, _ => by rw [show n = 0 by omega]
  | m + 1, hm, hz => by
    by_cases e : n = m + 1
    · rw [e]
    · have ih := dbp_ge (T := T) (s := s) m (by omega) (fun i h1 h2 => hz i h1 (by omega))
      rw [dbp, hz m (by omega) (Nat.lt_succ_self _), ih]
      cases dbp T dr s c n <;> rfl
theorem dfr_ge {h : Nat → Nat} (H : hv h) {c i : Nat} (hi : h 42 ≤ i) : (dfr h c).testBit i = false := by
  cases z : (dfr h c).testBit i
  · rfl
  · have := dfr_in z
    rw [hd_ge H hi] at this
    exact absurd this (by decide)
theorem dif_fz {a b i : Nat} (ha : a < 256) (z : a.testBit i = false) : (dif a b).testBit i = false := by rw [dif_tb ha, z]; rfl
theorem encD_lt {n : Nat} (hn : n < 2 ^ 31) : encD n < 0 ↔ ¬ 0 < n := by
  cases n with
  | zero => exact ⟨fun _ => by omega, fun _ => show (-9 : Int32) < 0 by decide +kernel⟩
  | succ k => exact ⟨fun q => absurd q (nI_pos hn), fun q => by omega⟩
theorem encD_pos {n : Nat} (h : 0 < n) : encD n = nI n := by
  cases n with
  | zero => omega
  | succ k => rfl
theorem encD_m1 {n : Nat} (hn : n < 2 ^ 31) : ¬ encD n = -1 := by
  cases n with
  | zero => exact show ¬ (-9 : Int32) = -1 by decide +kernel
  | succ k => intro q; have := nI_pos (n := k + 1) hn; exact this (by rw [show nI (k + 1) = -1 from q]; decide +kernel)
theorem place_r {s c : Nat} : (nI 8 * nI s) + nI c = nI (8 * s + c) := by rw [pk_mul, nI_add]
theorem memD.up {dr : Nat → Nat} {g : Nat → Int32} (m : memD dr g) {s c : Nat} (hs : s < 256) (hc : c < 8) : memD dr (upd g (8 * s + c) (encD (gD dr s c))) := fun t d ht hd' => by
  by_cases e : 8 * t + d = 8 * s + c
  · have e1 : t = s := by omega
    have e2 : d = c := by omega
    subst e1; subst e2
    exact Or.inr pk_us
  · rw [pk_un e]
    exact m t d ht hd'
section GA3
variable {h : Nat → Nat} {gw gr : Nat → Int32}
/-- what the reference's depth does, with so much fuel -/
def dpOK (h : Nat → Nat) (gw gr : Nat → Int32) (k : Nat) (W : (Int32 → (Nat → Int32) → Prop) → (Nat → Int32) → (Nat → Int32) → (Nat → Int32) → Int32 → Int32 → Prop) : Prop := ∀ (post : Int32 → (Nat → Int32) → Prop) (g : Nat → Int32) (s c : Nat), s < 256 → c < 8 → 8 - pc s 8 < k → memD (dfr h) g → (∀ g', memD (dfr h) g' → post (encD (gD (dfr h) s c)) g') → W post gw gr g (nI s) (nI c)
def anOK (h : Nat → Nat) (gw gr : Nat → Int32) (k : Nat) (W : (Int32 → (Nat → Int32) → Prop) → (Nat → Int32) → (Nat → Int32) → (Nat → Int32) → Int32 → Int32 → Prop) : Prop := ∀ (post : Int32 → (Nat → Int32) → Prop) (g : Nat → Int32) (s d : Nat), s < 256 → d < 8 → 8 - pc s 8 < k → memD (dfr h) g → (∀ g', memD (dfr h) g' → post (enc2 (bst (gD (dfr h)) (dfr h) s d)) g') → W post gw gr g (nI s) (nI d)
theorem m_depthAt {k : Nat} {W : (Int32 → (Nat → Int32) → Prop) → (Nat → Int32) → (Nat → Int32) → (Nat → Int32) → Int32 → Int32 → Prop} (hW : dpOK h gw gr k W) : dpOK h gw gr k (wp_X11_depthAt W) := by
  intro post g s c hs hc hk hm hp
  unfold wp_X11_depthAt
  have hpl : 8 * s + c < 2048 := by omega
  have l := gD_le (dfr h) s c
  rw [place_r]
  refine ⟨vp_in_nI hpl (by decide), ?_⟩
  rw [nI_clamp (by omega)]
  constructor
  · intro q
    refine ⟨vp_in_nI hpl (by decide), ?_⟩
    rcases hm s c hs hc with e | e
    · exact absurd e q
    · rw [e]; exact hp g hm
  · intro _
    refine hW _ g s c hs hc hk hm (fun g' hm' => ⟨vp_in_nI hpl (by decide), vp_in_nI hpl (by decide), ?_⟩)
    rw [pk_us]
    exact hp _ (hm'.up hs hc)
theorem pc_sub {s q : Nat} (hq : q < 8) (hb : s.testBit q = false) {k : Nat} (hk : 8 - pc s 8 < k + 1) : 8 - pc (s ||| 2 ^ q) 8 < k := by
  rw [pc_add hq hb]
  have := pc_lt hq hb
  omega
theorem m_answered (hw : ag 43 gw h) (H : hv h) (hgr : ag 8 gr (dfr h)) {k : Nat} {W : (Int32 → (Nat → Int32) → Prop) → (Nat → Int32) → (Nat → Int32) → (Nat → Int32) → Int32 → Int32 → Prop} (hW : dpOK h gw gr k W) : anOK h gw gr (k + 1) (wp_X11_answered W) := by
  intro post g s d hs hd' hk hm hp
  unfold wp_X11_answered
  have hM := H.1
  have l0 : dfr h d < 256 := dfr_r8 h d hd'
  have l1 := dif_lt l0 s
  refine lo3 (fun n q v w g => wp_X11_answered_8 W post gw gr (nI s) (nI d) n v w (nI q) g) (fun q v w g => memD (dfr h) g ∧ v = enc2 (bstp (gD (dfr h)) (dfr h) s d q) ∧ w = lst2 (bstp (gD (dfr h)) (dfr h) s d q)) (h 42) _ _ _ ⟨hm, rfl, rfl⟩ ?_ ?_
  · rintro n v w g ⟨hm, rfl, rfl⟩
    show wp_X11_answered_8 _ _ _ _ _ _ _ _ _ _ _
    unfold wp_X11_answered_8
    refine ⟨vp_in_nI (by decide) (by decide), ?_⟩
    rw [hw.rd (by decide) (by decide)]
    refine wt (nI_le (Nat.le_refl _) (by omega)) ?_
    have := hp g hm
    unfold bst at this
    rw [bstp_ge (n := h 42) 8 hM (fun i h1 _ => dif_fz l0 (dfr_ge H h1))] at this
    exact this
  · rintro n q v w g hq ⟨hm, rfl, rfl⟩ ih
    show wp_X11_answered_8 _ _ _ _ _ _ _ _ _ _ _
    unfold wp_X11_answered_8
    refine ⟨vp_in_nI (by decide) (by decide), ?_⟩
    rw [hw.rd (by decide) (by decide)]
    refine wf (nI_ge hq (by omega)) ⟨vp_in_nI hd' (by decide), ?_⟩
    rw [hgr.rd hd' (by decide), nx_dif l0, nS, shl_1 (by omega), nx_or]
    refine m_has (by omega) (by omega) ?_
    refine zc (fun z => ih _ _ _ ⟨hm, ?_⟩) (fun z => ?_)
    · rw [bstp, z]; simp
    · have hnq : s.testBit q = false := by rw [dif_tb l0, Bool.and_eq_true] at z; simpa using z.2
      have lt := or_lt8 hs (pw_lt8 (show q < 8 by omega))
      have lD := gD_le (dfr h) (s ||| 2 ^ q) q
      refine hW _ g (s ||| 2 ^ q) q lt (by omega) (pc_sub (by omega) hnq hk) hm (fun g' hm' => ?_)
      refine wc (encD_lt (by omega)) (fun c => ih _ _ _ ⟨hm', ?_⟩) (fun c => ?_)
      · rw [bstp, z, decide_eq_false c]; simp
      · have hpos : 0 < gD (dfr h) (s ||| 2 ^ q) q := by omega
        rw [encD_pos hpos]
        cases e : bstp (gD (dfr h)) (dfr h) s d q with
        | none =>
          refine wt (by decide +kernel) (ih _ _ _ ⟨hm', ?_⟩)
          rw [bstp, z, decide_eq_true hpos, e]; exact ⟨rfl, rfl⟩
        | some b =>
          obtain ⟨b1, -, b2, b3⟩ := bstp_in e
          have lD2 := gD_le (dfr h) (s ||| 2 ^ b.1) b.1
          refine wf (nI_pos (show b.1 < 2 ^ 31 by omega)) ?_
          show (nI b.2 ≤ _ → _) ∧ (¬ nI b.2 ≤ _ → _)
          refine wc (nI_leI (by omega) (by omega)) (fun c2 => ih _ _ _ ⟨hm', ?_⟩) (fun c2 => ih _ _ _ ⟨hm', ?_⟩)
          · rw [bstp, z, decide_eq_true hpos, e]
            simp [Nat.not_lt.mpr c2]
          · rw [bstp, z, decide_eq_true hpos, e]
            simp [Nat.not_le.mp c2, enc2, lst2]
theorem m_depth (hw : ag 43 gw h) (H : hv h) (hgr : ag 8 gr (dfr h)) {k : Nat} {W0 W1 : (Int32 → (Nat → Int32) → Prop) → (Nat → Int32) → (Nat → Int32) → (Nat → Int32) → Int32 → Int32 → Prop} (h0 : anOK h gw gr (k + 1) W0) (h1 : dpOK h gw gr k W1) : dpOK h gw gr (k + 1) (wp_X11_depth W0 W1) := by
  intro post g s c hs hc hk hm hp
  unfold wp_X11_depth
  have hM := H.1
  have l0 : dfr h c < 256 := dfr_r8 h c hc
  rw [gD_eq (dfr_r8 h) hs] at hp
  refine lo2 (fun n d v g => wp_X11_depth_5 W0 W1 post gw gr (nI s) (nI c) n v (nI d) g) (fun d v g => memD (dfr h) g ∧ ∃ m, dbp (gD (dfr h)) (dfr h) s c d = some m ∧ v = nI m) (h 42) _ _ ⟨hm, 0, rfl, rfl⟩ ?_ ?_
  · rintro n v g ⟨hm, m, e, rfl⟩
    show wp_X11_depth_5 _ _ _ _ _ _ _ _ _ _ _
    unfold wp_X11_depth_5
    refine ⟨vp_in_nI (by decide) (by decide), ?_⟩
    rw [hw.rd (by decide) (by decide)]
    refine wt (nI_le (Nat.le_refl _) (by omega)) ?_
    have := hp g hm
    unfold dB at this
    rw [dbp_ge (n := h 42) 8 hM (fun i h1 _ => dfr_ge H h1), e] at this
    rw [nI_add]
    have t2 : post (encD (1 + m)) g := this
    rw [encD_pos (show 0 < 1 + m by omega)] at t2
    exact t2
  · rintro n d v g hd' ⟨hm, m, e, rfl⟩ ih
    show wp_X11_depth_5 _ _ _ _ _ _ _ _ _ _ _
    unfold wp_X11_depth_5
    refine ⟨vp_in_nI (by decide) (by decide), ?_⟩
    rw [hw.rd (by decide) (by decide)]
    refine wf (nI_ge hd' (by omega)) ⟨vp_in_nI hc (by decide), ?_⟩
    rw [hgr.rd hc (by decide), nS]
    have lm := dbp_le (gD_le (dfr h)) d m e
    refine m_has (by omega) (by omega) ?_
    refine zc (fun z => ih _ _ ⟨hm, m, ?_, rfl⟩) (fun z => ?_)
    · rw [dbp, e, z]; rfl
    · refine h0 _ g s d hs (by omega) hk hm (fun g' hm' => ?_)
      cases eb : bst (gD (dfr h)) (dfr h) s d with
      | none =>
        refine wf (show ¬ (0 : Int32) ≤ -1 by decide +kernel) ?_
        have en : ∀ j, dbp (gD (dfr h)) (dfr h) s c (d + 1 + j) = none := by
          intro j
          induction j with
          | zero => rw [Nat.add_zero, dbp, e, z, eb]; rfl
          | succ j ihj => show dbp (gD (dfr h)) (dfr h) s c (d + 1 + j + 1) = none; rw [dbp, ihj]
        have e8 := en (7 - d)
        rw [show d + 1 + (7 - d) = 8 by omega] at e8
        have := hp g' hm'
        unfold dB at this
        rw [e8] at this
        exact this
      | some b =>
        obtain ⟨b1, bz, b2, b3⟩ := bstp_in eb
        refine wt (nI_pos' (show b.1 < 2 ^ 31 by omega)) ?_
        show W1 _ _ _ _ (nI s ||| nI 1 <<< (nI b.1 &&& 31)) (nI b.1)
        rw [shl_1 (by omega), nx_or]
        have hnq : s.testBit b.1 = false := by rw [dif_tb (dfr_r8 h d (by omega)), Bool.and_eq_true] at bz; simpa using bz.2
        have lt := or_lt8 hs (pw_lt8 b1)
        have lD := gD_le (dfr h) (s ||| 2 ^ b.1) b.1
        refine h1 _ g' (s ||| 2 ^ b.1) b.1 lt b1 (pc_sub b1 hnq hk) hm' (fun g2 hm2 => ?_)
        rw [← b2, encD_pos b3, nI_add]
        have ne : dbp (gD (dfr h)) (dfr h) s c (d + 1) = some (if m < 1 + b.2 then 1 + b.2 else m) := by rw [dbp, e, z, eb]; rfl
        refine wc (nI_leI (by omega) (by omega)) (fun q => ih _ _ ⟨hm2, _, ne, ?_⟩) (fun q => ih _ _ ⟨hm2, _, ne, ?_⟩)
        · rw [if_neg (by omega)]
        · rw [if_pos (by omega), Nat.add_comm]
theorem m_depth_r (hw : ag 43 gw h) (H : hv h) (hgr : ag 8 gr (dfr h)) : ∀ k, dpOK h gw gr k (wp_X11_depth_r k)
  | 0 => fun _ _ _ _ _ _ hk => absurd hk (Nat.not_lt_zero _)
  | k + 1 => m_depth hw H hgr (m_answered hw H hgr (m_depthAt (m_depth_r hw H hgr k))) (m_depth_r hw H hgr k)
theorem m_depthAt_t (hw : ag 43 gw h) (H : hv h) (hgr : ag 8 gr (dfr h)) : dpOK h gw gr 10 wp_X11_depthAt_t := m_depthAt (m_depth_r hw H hgr 10)
theorem m_answered_t (hw : ag 43 gw h) (H : hv h) (hgr : ag 8 gr (dfr h)) : anOK h gw gr 11 wp_X11_answered_t := m_answered hw H hgr (m_depthAt (m_depth_r hw H hgr 10))
end GA3
