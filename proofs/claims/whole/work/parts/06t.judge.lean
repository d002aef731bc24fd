/-! the reference's lots; labels judged -/
theorem m_copies {a b : Nat → Int32} {post : (Nat → Int32) → Prop} (hp : ∀ g, (∀ j, j < 43 → g j = a j) → post g) : wp_X11_copies post a b := by
  unfold wp_X11_copies
  refine loop_0 (fun n i g => wp_X11_copies_2 post a n (nI i) g) (fun i g => ∀ j, j < i → g j = a j) 43 _ (fun j hj => absurd hj (Nat.not_lt_zero j)) ?_ ?_
  · rintro n g i1
    show wp_X11_copies_2 _ _ _ _ _
    unfold wp_X11_copies_2
    exact wt (nI_le (Nat.le_refl _) (by decide)) (hp g i1)
  · rintro n i g hi i1 ih
    show wp_X11_copies_2 _ _ _ _ _
    unfold wp_X11_copies_2
    refine wf (nI_ge hi (by decide)) ⟨vp_in_nI hi (by decide), vp_in_nI hi (by decide), ?_⟩
    rw [nI_clamp (by omega), nS i]
    refine ih _ (fun j hj => ?_)
    by_cases e : j = i
    · subst e; exact pk_us
    · rw [pk_un e]; exact i1 j (by omega)
theorem m_minds {a b : Nat → Int32} {post : (Nat → Int32) → Prop} (hp : ∀ g, (∀ j, j < 43 → g j = a j) → post g) : wp_X11_minds post a b := by
  unfold wp_X11_minds
  exact m_copies hp
theorem m_forgets {a b : Nat → Int32} {post : (Nat → Int32) → Prop} (hp : ∀ g, (∀ j, j < 43 → g j = b j) → post g) : wp_X11_forgets post a b := by
  unfold wp_X11_forgets
  exact m_copies hp
def hpa (h f : Nat → Nat) (a j : Nat) : Nat := if 24 ≤ j ∧ j < 24 + a then f (j - 24) else h j
section MLO
variable {h : Nat → Nat}
theorem m_draw {z : Int32} {post : Int32 → Int32 → Prop} (hp : ∀ x, (x = 0 ↔ drB (stp z) = true) → post x (stp z)) : wp_X11_draw post z (nI 4) := by
  unfold wp_X11_draw
  refine ⟨by decide +kernel, ?_⟩
  exact hp _ ⟨fun c => decide_eq_true c, fun c => of_decide_eq_true c⟩
theorem m_drawsAttacks (H : hv h) {z : Int32} {gw : Nat → Int32} (hw : ag 43 gw h) {post : (Nat → Int32) → Int32 → Prop} (hp : ∀ gw, ag 43 gw (hat h (dr2 (h 42) z (h 42)).2) → post gw (dr2 (h 42) z (h 42)).1) : wp_X11_drawsAttacks post gw z := by
  have h8 := H.1
  unfold wp_X11_drawsAttacks
  have w42 : ∀ {f : Nat → Nat} {a : Nat} {g : Nat → Int32}, a ≤ 8 → ag 43 g (hpa h f a) → g (nI 42).toNatClampNeg = nI (h 42) := fun {f a g} ha q => by
    rw [nI_clamp (by decide), q 42 (by decide)]
    unfold hpa
    rw [if_neg (by omega)]
  refine lo2 (fun n a gw v => wp_X11_drawsAttacks_2 post n (nI a) gw v) (fun a gw v => ag 43 gw (hpa h (dr2 (h 42) z a).2 a) ∧ v = (dr2 (h 42) z a).1) (h 42) _ _ ⟨hw.cg (fun j hj => by unfold hpa; rw [if_neg (by omega)]), rfl⟩ ?_ ?_
  · rintro n gw v ⟨q, rfl⟩
    show wp_X11_drawsAttacks_2 _ _ _ _ _
    unfold wp_X11_drawsAttacks_2
    refine ⟨vp_in_nI (by decide) (by decide), ?_⟩
    rw [w42 h8 q]
    refine wt (nI_le (Nat.le_refl _) (by omega)) (hp _ (q.cg (fun j hj => ?_)))
    unfold hpa hat
    by_cases e : 24 ≤ j ∧ j < 24 + h 42
    · rw [if_pos e, if_pos (by omega)]
    · rw [if_neg e]
      by_cases e2 : 24 ≤ j ∧ j < 32
      · rw [if_pos e2, (dr2_ok (h 42) z (h 42) (j - 24)).2.2 (by omega)]
        have k := ((H.2.2.2 (j - 24) (by omega)).2.2.2 (by omega)).2.1
        rw [show 24 + (j - 24) = j by omega] at k
        exact k
      · rw [if_neg e2]
  · rintro n a gw v ha ⟨q, rfl⟩ ih
    show wp_X11_drawsAttacks_2 _ _ _ _ _
    unfold wp_X11_drawsAttacks_2
    refine ⟨vp_in_nI (by decide) (by decide), ?_⟩
    rw [w42 (by omega) q]
    refine wf (nI_ge ha (by omega)) ?_
    rw [nI_add, nI_clamp (show 24 + a < 2 ^ 31 by omega)]
    refine ⟨vp_in_nI (by omega) (by decide), ?_⟩
    refine lo2 (fun k b gw v => wp_X11_drawsAttacks_25 post (wp_X11_drawsAttacks_2 post n) k (nI a) (nI b) gw v) (fun b gw v => ag 43 gw (upN (hpa h (dr2 (h 42) z a).2 a) (24 + a) (dr1 a (dr2 (h 42) z a).1 b).2) ∧ v = (dr1 a (dr2 (h 42) z a).1 b).1) (h 42) _ _ ⟨q.set (24 + a) 0, rfl⟩ ?_ ?_
    · rintro k gw v ⟨q, rfl⟩
      show wp_X11_drawsAttacks_25 _ _ _ _ _ _ _
      unfold wp_X11_drawsAttacks_25
      refine ⟨vp_in_nI (by decide) (by decide), ?_⟩
      have e42 : gw (nI 42).toNatClampNeg = nI (h 42) := by
        rw [nI_clamp (by decide), q 42 (by decide), upN_n _ (by omega)]
        unfold hpa
        rw [if_neg (by omega)]
      rw [e42, nS a]
      refine wt (nI_le (Nat.le_refl _) (by omega)) (ih _ _ ⟨q.cg (fun j hj => ?_), rfl⟩)
      show _ = hpa h (upN (dr2 (h 42) z a).2 a (dr1 a (dr2 (h 42) z a).1 (h 42)).2) (a + 1) j
      unfold hpa
      by_cases e : j = 24 + a
      · subst e
        rw [upN_s, if_pos (by omega), show 24 + a - 24 = a by omega, upN_s]
      · rw [upN_n _ e]
        by_cases e2 : 24 ≤ j ∧ j < 24 + a
        · rw [if_pos e2, if_pos (by omega), upN_n _ (by omega)]
        · rw [if_neg e2, if_neg (by omega)]
    · rintro k b gw v hb ⟨q, rfl⟩ ih2
      show wp_X11_drawsAttacks_25 _ _ _ _ _ _ _
      unfold wp_X11_drawsAttacks_25
      refine ⟨vp_in_nI (by decide) (by decide), ?_⟩
      have e42 : gw (nI 42).toNatClampNeg = nI (h 42) := by
        rw [nI_clamp (by decide), q 42 (by decide), upN_n _ (by omega)]
        unfold hpa
        rw [if_neg (by omega)]
      rw [e42, nS b, nI_add 24 a, nI_clamp (show 24 + a < 2 ^ 31 by omega)]
      refine wf (nI_ge hb (by omega)) ?_
      refine wc (nI_eq (by omega) (by omega)) (fun y => ih2 _ _ ⟨by rw [dr1_s, if_pos y]; exact q, by rw [dr1_s, if_pos y]⟩) (fun y => ⟨vp_in_nI (by omega) (by decide), ?_⟩)
      have ew : gw (24 + a) = nI (dr1 a (dr2 (h 42) z a).1 b).2 := by rw [q (24 + a) (by omega), upN_s]
      rw [ew, shl_1 (by omega), nx_or, nx_or]
      have up : ∀ r, ag 43 (upd gw (24 + a) (nI r)) (upN (hpa h (dr2 (h 42) z a).2 a) (24 + a) r) := fun r => (q.set (24 + a) r).cg (fun j hj => by
        by_cases e : j = 24 + a
        · subst e; rw [upN_s, upN_s]
        · rw [upN_n _ e, upN_n _ e, upN_n _ e])
      refine m_draw (fun x hx => ?_)
      refine wc2 hx (fun c => ⟨vp_in_nI (by omega) (by decide), ih2 _ _ ⟨?_, ?_⟩⟩) (fun c => ⟨vp_in_nI (by omega) (by decide), ih2 _ _ ⟨?_, ?_⟩⟩)
      · rw [dr1_s, if_neg y]
        simp only [if_pos c]
        exact up _
      · rw [dr1_s, if_neg y]
      · rw [dr1_s, if_neg y, Nat.or_zero]
        simp only [if_neg c]
        exact up _
      · rw [dr1_s, if_neg y]
theorem m_lots (H : hv h) {gw gla : Nat → Int32} (hw : ag 43 gw h) {N : Nat} (hN : N ≤ 20) (hN1 : 1 ≤ N) {z z0 : Int32} {w : Bool} {grf gis : Nat → Int32} {gh gl gd gr : Nat → Int32} {i1 i2 : Int32} {go : Nat → Int32} {i3 : Int32} {post : Int32 → (Nat → Int32) → (Nat → Int32) → (Nat → Int32) → (Nat → Int32) → (Nat → Int32) → (Nat → Int32) → (Nat → Int32) → Int32 → Int32 → (Nat → Int32) → Int32 → (Nat → Int32) → Int32 → Prop} (hp : ∀ gw gla, ag 43 gw h → ∀ gh gl gd gr i1 i2 go i3 gis z0, post (nI (lts h z w N).2) gw gla grf gh gl gd gr i1 i2 go i3 gis z0) : wp_X11_lots post gw gla grf gh gl gd gr i1 i2 go i3 gis z0 (nI N) z (zI w) := by
  have h8 := H.1
  unfold wp_X11_lots
  rw [l_20]
  refine m_inN (by decide) (by decide) (fun _ _ _ _ => ?_) (fun q => absurd ⟨N, ⟨hN1, hN⟩, rfl⟩ q)
  refine wf2 n1_0 (m_inZ (wf2 n1_0 (m_minds (fun gla hla => ?_))))
  have hla2 : ag 43 gla h := fun j hj => by rw [hla j hj]; exact hw j hj
  refine lo12 (fun n i y gw gh gl gd gr i1 i2 go i3 gis v => wp_X11_lots_61 post (nI N) z (zI w) n y (nI i) gw gla grf gh gl gd gr i1 i2 go i3 gis v) (fun i y gw gh gl gd gr i1 i2 go i3 gis v => (y = nI (lts h z w i).2 ∧ v = (lts h z w i).1.1) ∧ ag 43 gw (lts h z w i).1.2) N _ _ _ _ _ _ _ _ _ _ _ _ ⟨⟨rfl, rfl⟩, hw⟩ ?_ ?_
  · rintro n y gw gh gl gd gr i1 i2 go i3 gis v ⟨⟨rfl, rfl⟩, q⟩
    show wp_X11_lots_61 _ _ _ _ _ _ _ _ _ _ _ _ _ _ _ _ _ _ _ _
    unfold wp_X11_lots_61
    refine wt (nI_le (Nat.le_refl _) (by omega)) (m_forgets (fun gw hgw => ?_))
    exact hp _ _ (fun j hj => by rw [hgw j hj]; exact hla2 j hj) _ _ _ _ _ _ _ _ _ _
  · rintro n i y gw gh gl gd gr i1 i2 go i3 gis v hi ⟨⟨rfl, rfl⟩, q⟩ ih
    show wp_X11_lots_61 _ _ _ _ _ _ _ _ _ _ _ _ _ _ _ _ _ _ _ _
    unfold wp_X11_lots_61 wp_X11_lots_85
    refine wf (nI_ge hi (by omega)) ?_
    have ok := lts_ok H z w i
    have ok2 := (lts_ok H z w (i + 1)).1
    rw [nS i]
    refine m_drawsAttacks ok.1 q (fun gw hw => ?_)
    rw [ok.2] at hw ⊢
    refine m_turnsAll hw ok2 (fun gh gl gd gr go i1 i2 i3 i4 i5 => ?_)
    refine ⟨fun k => ?_, fun k => ?_⟩
    · have kw : w = false := (zI_n1 w).mp k
      refine wt2 ((zI_0 w).mpr kw) ?_
      refine m_ones (by have := tI_lt ok2; exact Nat.lt_trans this (by decide)) ?_
      rw [nI_add]
      refine ih _ _ _ _ _ _ _ _ _ _ _ _ ⟨⟨?_, rfl⟩, hw⟩
      rw [kw]; rfl
    · have kw : w = true := (zI_1 w).mp k
      refine m_findsPlain (sort := 4) hw ok2 i3 i4 (by omega) (by omega) (fun gis hgis => ?_)
      refine wf2 (fun c => by rw [kw] at c; exact n1_0 c) ?_
      refine m_found hgis ?_
      rw [nI_add]
      refine ih _ _ _ _ _ _ _ _ _ _ _ _ ⟨⟨?_, rfl⟩, hw⟩
      rw [kw]; rfl
end MLO
def tol (rn : Nat) (rf : Nat → Nat) (k : Nat) : Nat := if k < rn then rf k else 9
def alO (rn : Nat) (rf : Nat → Nat) (s n : Nat) : Bool := !anB (fun i => s.testBit i && !decide (tol rn rf i = 0)) n
def smI (rn : Nat) (rf : Nat → Nat) (s n : Nat) : Bool := anB (fun i => s.testBit i && decide (tol rn rf i = 1)) n
theorem anB_s (p : Nat → Bool) (n : Nat) : anB p (n + 1) = true ↔ anB p n = true ∨ p n = true := by
  rw [anB_iff, anB_iff]
  constructor
  · rintro ⟨i, hi, q⟩
    by_cases e : i = n
    · subst e; exact Or.inr q
    · exact Or.inl ⟨i, by omega, q⟩
  · rintro (⟨i, hi, q⟩ | q)
    · exact ⟨i, by omega, q⟩
    · exact ⟨n, by omega, q⟩
theorem anB_sf {p : Nat → Bool} {n : Nat} (h : anB p n = false) (q : p n = false) : anB p (n + 1) = false := by
  rw [anB_f] at h ⊢
  intro i hi
  by_cases e : i = n
  · subst e; exact q
  · exact h i (by omega)
theorem anB_ge {p : Nat → Bool} {n m : Nat} (hnm : n ≤ m) (hz : ∀ i, n ≤ i → i < m → p i = false) : anB p m = anB p n := by
  cases e : anB p n
  · rw [anB_f] at e ⊢
    intro i hi
    by_cases q : i < n
    · exact e i q
    · exact hz i (by omega) hi
  · rw [anB_iff] at e ⊢
    obtain ⟨i, hi, q⟩ := e
    exact ⟨i, by omega, q⟩
def due (h : Nat → Nat) (rn : Nat) (rf : Nat → Nat) (c : Nat) : Nat := if hd h c then (if alO rn rf (dfr h c) 8 then 1 else if smI rn rf (dfr h c) 8 then 0 else 2) else 3
theorem due_le (h : Nat → Nat) (rn : Nat) (rf : Nat → Nat) (c : Nat) : due h rn rf c ≤ 3 := by
  unfold due
  split
  · split
    · omega
    · split <;> omega
  · omega
theorem smI_al {rn : Nat} {rf : Nat → Nat} {s n : Nat} (q : smI rn rf s n = true) : alO rn rf s n = false := by
  unfold smI at q
  rw [anB_iff] at q
  obtain ⟨i, hi, e⟩ := q
  rw [Bool.and_eq_true] at e
  have e2 := of_decide_eq_true e.2
  unfold alO
  rw [anB_iff.mpr ⟨i, hi, by rw [e.1, decide_eq_false (by omega)]; rfl⟩]
  rfl
section JUD
variable {rn : Nat} {rf : Nat → Nat} {g : Nat → Int32}
theorem s_rowTol (hr : rn ≤ 12) (hg : ag rn g rf) {k : Nat} (hk : k < 2 ^ 31) {post : Int32 → Prop} (hp : post (nI (tol rn rf k))) : wp_X6_at post 12 g (nI rn) (nI k) (nI 9) := by
  refine s_rowAt hr hg hk ?_
  unfold tol at hp
  by_cases e : k < rn
  · rw [if_pos e] at hp ⊢; exact hp
  · rw [if_neg e] at hp ⊢; exact hp
theorem m_toldOf (hr : rn ≤ 12) (hg : ag rn g rf) {k : Nat} (hk : k < 2 ^ 31) {post : Int32 → Prop} (hp : post (nI (tol rn rf k))) : wp_X11_toldOf post g (nI rn) (nI k) := by
  unfold wp_X11_toldOf
  unfold tol at hp
  refine wc (nI_leI (by omega) hk) (fun e => ?_) (fun e => ⟨vp_in_nI (by omega) (by decide), ?_⟩)
  · rw [if_neg (by omega)] at hp; exact hp
  · rw [if_pos (by omega)] at hp
    rw [nI_clamp hk, hg k (by omega)]
    exact hp
theorem tol_lt (hrf : ∀ k, k < rn → rf k < 2 ^ 31) (k : Nat) : tol rn rf k < 2 ^ 31 := by
  unfold tol
  split
  · next q => exact hrf k q
  · decide
theorem s_dueBy (hr : rn ≤ 12) (hg : ag rn g rf) (hrf : ∀ k, k < rn → rf k < 2 ^ 31) {s : Nat} (hs : s < 256) {post : Int32 → Prop} (hp : post (nI (if alO rn rf s 8 then 1 else if smI rn rf s 8 then 0 else 2))) : wp_X4_dueBy post 12 g (nI rn) (nI s) := by
  unfold wp_X4_dueBy
  refine loop_0 (fun n i v => wp_X4_dueBy_4 post 12 g (nI rn) (nI s) n v (nI i)) (fun i v => v = zI (alO rn rf s i) ∧ smI rn rf s i = false) 8 _ ⟨rfl, rfl⟩ ?_ ?_
  · rintro n v ⟨rfl, q⟩
    show wp_X4_dueBy_4 _ _ _ _ _ _ _ _
    unfold wp_X4_dueBy_4
    refine wt (nI_le (Nat.le_refl _) (by decide)) ?_
    rw [q] at hp
    refine zc (fun z => ?_) (fun z => ?_)
    · rw [z] at hp; exact hp
    · rw [z] at hp; exact hp
  · rintro n i v hi ⟨rfl, q⟩ ih
    show wp_X4_dueBy_4 _ _ _ _ _ _ _ _
    unfold wp_X4_dueBy_4
    refine wf (nI_ge hi (by decide)) ?_
    rw [nS i]
    refine s_contains hs hi ?_
    have al_s : ∀ b, (s.testBit i && !decide (tol rn rf i = 0)) = b → alO rn rf s (i + 1) = (alO rn rf s i && !b) := fun b e => by
      unfold alO
      cases b
      · cases y : anB (fun i => s.testBit i && !decide (tol rn rf i = 0)) i
        · rw [anB_sf y e]; rfl
        · rw [(anB_s _ _).mpr (Or.inl y)]; rfl
      · rw [(anB_s _ _).mpr (Or.inr e)]; simp
    refine zc (fun z => ih _ ⟨?_, anB_sf q (by rw [z]; rfl)⟩) (fun z => ?_)
    · rw [al_s false (by rw [z]; rfl)]; simp
    · refine s_rowTol hr hg (by omega) ?_
      have lt := tol_lt (rn := rn) (rf := rf) hrf i
      refine wc2 (nI_eq lt (by decide)) (fun e => ?_) (fun e => ?_)
      · have sm : smI rn rf s (i + 1) = true := (anB_s _ _).mpr (Or.inr (by rw [z, decide_eq_true e]; rfl))
        have sm8 : smI rn rf s 8 = true := by
          unfold smI at sm ⊢
          rw [anB_iff] at sm ⊢
          obtain ⟨j, hj, y⟩ := sm
          exact ⟨j, by omega, y⟩
        rw [smI_al sm8, sm8] at hp
        exact hp
      · have sm : smI rn rf s (i + 1) = false := anB_sf q (by rw [decide_eq_false e, Bool.and_false])
        refine zc (fun y => ih _ ⟨?_, sm⟩) (fun y => ?_)
        · have : alO rn rf s (i + 1) = false := by
            cases hb : (s.testBit i && !decide (tol rn rf i = 0))
            · rw [al_s _ hb, y]; rfl
            · rw [al_s _ hb, y]; rfl
          rw [this]; rfl
        · refine wc2 (nI_eq0 lt) (fun k => ih _ ⟨?_, sm⟩) (fun k => ih _ ⟨?_, sm⟩)
          · rw [al_s false (by rw [decide_eq_true k]; simp), y]; rfl
          · rw [al_s true (by rw [decide_eq_false k, z]; rfl), y]; rfl
def frs (p : Nat → Bool) : Nat → Option Nat
  | 0 => none
  | n + 1 => match frs p n with
    | some x => some x
    | none => if p n then some n else none
theorem frs_up {p : Nat → Bool} {n x : Nat} (e : frs p n = some x) : ∀ j, frs p (n + j) = some x
  | 0 => e
  | j + 1 => by
    show frs p (n + j + 1) = _
    rw [frs, frs_up e j]
theorem frs_sn {p : Nat → Bool} {n : Nat} (e : frs p n = none) (q : p n = false) : frs p (n + 1) = none := by rw [frs, e, q]; rfl
theorem frs_of {p : Nat → Bool} {n m : Nat} (e : frs p n = none) (q : p n = true) (hm : n < m) : frs p m = some n := by
  have := frs_up (show frs p (n + 1) = some n by rw [frs, e, q]; rfl) (m - (n + 1))
  rw [show n + 1 + (m - (n + 1)) = m by omega] at this
  exact this
def jud (h : Nat → Nat) (rn : Nat) (rf : Nat → Nat) : Int32 := match frs (fun c => !decide (tol rn rf c = due h rn rf c)) (h 42) with
  | some x => nI x
  | none => if rn ≤ h 42 then -9 else nI (h 42)
theorem jud_n {h : Nat → Nat} (e : frs (fun c => !decide (tol rn rf c = due h rn rf c)) (h 42) = none) : jud h rn rf = if rn ≤ h 42 then -9 else nI (h 42) := by
  unfold jud
  rw [e]
theorem jud_s {h : Nat → Nat} {x : Nat} (e : frs (fun c => !decide (tol rn rf c = due h rn rf c)) (h 42) = some x) : jud h rn rf = nI x := by
  unfold jud
  rw [e]
theorem s_judged {h : Nat → Nat} (H : hv h) (hr : rn ≤ 12) (hg : ag rn g rf) (hrf : ∀ k, k < rn → rf k < 2 ^ 31) {post : Int32 → Prop} (hp : post (jud h rn rf)) : wp_X4_judged post 12 g (nI rn) (nI (h 42)) (nI (h 40)) (pL (dfr h)) := by
  have h8 := H.1
  unfold wp_X4_judged
  refine loop_0 (fun n i (_ : Unit) => wp_X4_judged_3 post 12 g (nI rn) (nI (h 42)) (nI (h 40)) (pL (dfr h)) n (nI i)) (fun i _ => frs (fun c => !decide (tol rn rf c = due h rn rf c)) i = none) (h 42) () rfl ?_ ?_
  · rintro n _ q
    show wp_X4_judged_3 _ _ _ _ _ _ _ _ _
    unfold wp_X4_judged_3
    refine wt (nI_le (Nat.le_refl _) (by omega)) ?_
    rw [jud_n q] at hp
    refine wc (nI_leI (by omega) (by omega)) (fun k => ?_) (fun k => ?_)
    · rw [if_pos k] at hp; exact hp
    · rw [if_neg k] at hp; exact hp
  · rintro n i _ hi q ih
    show wp_X4_judged_3 _ _ _ _ _ _ _ _ _
    unfold wp_X4_judged_3 wp_X4_judged_35
    refine wf (nI_ge hi (by omega)) ?_
    rw [nS i]
    have lt := tol_lt (rn := rn) (rf := rf) hrf i
    have ld := due_le h rn rf i
    have fin : wp_X6_at (fun (r42 : Int32) => ((r42 = nI (due h rn rf i) → wp_X4_judged_3 post 12 g (nI rn) (nI (h 42)) (nI (h 40)) (pL (dfr h)) n (nI (i + 1))) ∧ (¬ r42 = nI (due h rn rf i) → post (nI i)))) 12 g (nI rn) (nI i) (nI 9) := by
      refine s_rowTol hr hg (by omega) ?_
      refine wc (nI_eq lt (by omega)) (fun k => ih () (frs_sn q (by rw [decide_eq_true k]; rfl))) (fun k => ?_)
      rw [jud_s (frs_of q (by rw [decide_eq_false k]; rfl) hi)] at hp
      exact hp
    refine s_hears H hi ?_
    refine zc (fun z => ?_) (fun z => ?_)
    · have e : due h rn rf i = 3 := by unfold due; rw [z]; rfl
      rw [e] at fin
      exact fin
    · refine s_get (dfr_r8 h) (by omega) ?_
      refine s_dueBy hr hg hrf (dfr_r8 h i (by omega)) ?_
      have e : due h rn rf i = if alO rn rf (dfr h i) 8 then 1 else if smI rn rf (dfr h i) 8 then 0 else 2 := by unfold due; rw [if_pos z]
      rw [e] at fin
      exact fin
theorem al_ge {h : Nat → Nat} (H : hv h) (c : Nat) : alO rn rf (dfr h c) 8 = alO rn rf (dfr h c) (h 42) := by
  unfold alO
  rw [anB_ge H.1 (fun i h1 _ => by rw [dfr_ge H h1]; rfl)]
theorem sm_ge {h : Nat → Nat} (H : hv h) (c : Nat) : smI rn rf (dfr h c) 8 = smI rn rf (dfr h c) (h 42) := by
  unfold smI
  rw [anB_ge H.1 (fun i h1 _ => by rw [dfr_ge H h1]; rfl)]
theorem m_dueOf {gw gr : Nat → Int32} {h : Nat → Nat} (hw : ag 43 gw h) (H : hv h) (hgr : ag 8 gr (dfr h)) (hr : rn ≤ 12) (hg : ag rn g rf) (hrf : ∀ k, k < rn → rf k < 2 ^ 31) {c : Nat} (hc : c < 8) {post : Int32 → Prop} (hp : post (nI (due h rn rf c))) : wp_X11_dueOf post gw g (nI rn) gr (nI c) := by
  have h8 := H.1
  have l0 := dfr_r8 h c hc
  unfold wp_X11_dueOf
  refine m_isHeard hw H.heard (by omega) ?_
  unfold due at hp
  refine zc2 (fun z => by rw [z] at hp; exact hp) (fun z => ?_)
  rw [if_pos z] at hp
  refine lo2 (fun n i v u => wp_X11_dueOf_17 post gw g (nI rn) gr (nI c) n v u (nI i)) (fun i v u => v = zI (alO rn rf (dfr h c) i) ∧ u = zI (smI rn rf (dfr h c) i)) (h 42) _ _ ⟨rfl, rfl⟩ ?_ ?_
  · rintro n v u ⟨rfl, rfl⟩
    show wp_X11_dueOf_17 _ _ _ _ _ _ _ _ _ _
    unfold wp_X11_dueOf_17
    refine ⟨vp_in_nI (by decide) (by decide), ?_⟩
    rw [hw.rd (by decide) (by decide)]
    refine wt (nI_le (Nat.le_refl _) (by omega)) ?_
    rw [al_ge H, sm_ge H] at hp
    refine zc (fun y => ?_) (fun y => ?_)
    · rw [y] at hp
      refine zc (fun x => ?_) (fun x => ?_)
      · rw [x] at hp; exact hp
      · rw [x] at hp; exact hp
    · rw [y] at hp; exact hp
  · rintro n i v u hi ⟨rfl, rfl⟩ ih
    show wp_X11_dueOf_17 _ _ _ _ _ _ _ _ _ _
    unfold wp_X11_dueOf_17 wp_X11_dueOf_61
    refine ⟨vp_in_nI (by decide) (by decide), ?_⟩
    rw [hw.rd (by decide) (by decide), nS i, hgr.rd hc (by decide)]
    refine wf (nI_ge hi (by omega)) ?_
    have lt := tol_lt (rn := rn) (rf := rf) hrf i
    have ala : ∀ t, zI (alO rn rf (dfr h c) (i + 1)) = t → (((¬ zI (smI rn rf (dfr h c) i) = 0 → wp_X11_dueOf_17 post gw g (nI rn) gr (nI c) n t (nI 1) (nI (i + 1))) ∧ (zI (smI rn rf (dfr h c) i) = 0 → vp_in (nI c) 8 ∧ (wp_X11_has (fun (r74 : Int32) => ((r74 = 0 → wp_X11_dueOf_17 post gw g (nI rn) gr (nI c) n t (nI 0) (nI (i + 1))) ∧ (¬ r74 = 0 → wp_X11_toldOf (fun (r83 : Int32) => ((¬ r83 = nI 1 → wp_X11_dueOf_17 post gw g (nI rn) gr (nI c) n t (nI 0) (nI (i + 1))) ∧ (r83 = nI 1 → wp_X11_dueOf_17 post gw g (nI rn) gr (nI c) n t (nI 1) (nI (i + 1))))) g (nI rn) (nI i)))) (nI (dfr h c)) (nI i))))) := by
      rintro t rfl
      refine zc2 (fun x => ⟨vp_in_nI hc (by decide), ?_⟩) (fun x => ih _ _ ⟨rfl, ?_⟩)
      · refine m_has (by omega) (by omega) ?_
        refine zc (fun y => ih _ _ ⟨rfl, ?_⟩) (fun y => ?_)
        · rw [show smI rn rf (dfr h c) (i + 1) = false from anB_sf x (by rw [y]; rfl)]; rfl
        · refine m_toldOf hr hg (by omega) ?_
          refine wc2 (nI_eq lt (by decide)) (fun k => ih _ _ ⟨rfl, ?_⟩) (fun k => ih _ _ ⟨rfl, ?_⟩)
          · rw [show smI rn rf (dfr h c) (i + 1) = true from (anB_s _ _).mpr (Or.inr (by rw [y, decide_eq_true k]; rfl))]; rfl
          · rw [show smI rn rf (dfr h c) (i + 1) = false from anB_sf x (by rw [decide_eq_false k, Bool.and_false])]; rfl
      · rw [show smI rn rf (dfr h c) (i + 1) = true from (anB_s _ _).mpr (Or.inl x)]; rfl
    have al_s : ∀ b, ((dfr h c).testBit i && !decide (tol rn rf i = 0)) = b → alO rn rf (dfr h c) (i + 1) = (alO rn rf (dfr h c) i && !b) := fun b e => by
      unfold alO
      cases b
      · cases y : anB (fun i => (dfr h c).testBit i && !decide (tol rn rf i = 0)) i
        · rw [anB_sf y e]; rfl
        · rw [(anB_s _ _).mpr (Or.inl y)]; rfl
      · rw [(anB_s _ _).mpr (Or.inr e)]; simp
    refine zc (fun x => ala _ ?_) (fun x => ⟨vp_in_nI hc (by decide), ?_⟩)
    · rw [al_s _ rfl, x]; rfl
    · refine m_has (by omega) (by omega) ?_
      refine zc (fun y => ala _ ?_) (fun y => ?_)
      · rw [al_s false (by rw [y]; rfl), x]; rfl
      · refine m_toldOf hr hg (by omega) ?_
        refine wc2 (nI_eq0 lt) (fun k => ala _ ?_) (fun k => ala _ ?_)
        · rw [al_s false (by rw [decide_eq_true k]; simp), x]; rfl
        · rw [al_s true (by rw [decide_eq_false k, y]; rfl), x]; rfl
theorem m_judged {gw : Nat → Int32} {h : Nat → Nat} (hw : ag 43 gw h) (H : hv h) (hr : rn ≤ 12) (hg : ag rn g rf) (hrf : ∀ k, k < rn → rf k < 2 ^ 31) {g1 g2 g3 g4 : Nat → Int32} {post : Int32 → (Nat → Int32) → (Nat → Int32) → (Nat → Int32) → (Nat → Int32) → Prop} (hp : ∀ g1 g2 g3 g4, post (jud h rn rf) g1 g2 g3 g4) : wp_X11_judged post gw g (nI rn) g1 g2 g3 g4 := by
  have h8 := H.1
  unfold wp_X11_judged
  refine m_reckons hw H (fun g1 g2 g3 g4 i1 i2 i3 i4 => ?_)
  refine loop_0 (fun n i (_ : Unit) => wp_X11_judged_6 post gw g (nI rn) n (nI i) g1 g2 g3 g4) (fun i _ => frs (fun c => !decide (tol rn rf c = due h rn rf c)) i = none) (h 42) () rfl ?_ ?_
  · rintro n _ q
    show wp_X11_judged_6 _ _ _ _ _ _ _ _ _ _
    unfold wp_X11_judged_6
    have r := hp g1 g2 g3 g4
    refine ⟨vp_in_nI (by decide) (by decide), ?_⟩
    rw [hw.rd (by decide) (by decide)]
    refine wt (nI_le (Nat.le_refl _) (by omega)) ⟨vp_in_nI (by decide) (by decide), ?_⟩
    rw [jud_n q] at r
    refine wc (nI_leI (by omega) (by omega)) (fun k => ?_) (fun k => ⟨vp_in_nI (by decide) (by decide), ?_⟩)
    · rw [if_pos k] at r; exact r
    · rw [if_neg k] at r; exact r
  · rintro n i _ hi q ih
    show wp_X11_judged_6 _ _ _ _ _ _ _ _ _ _
    unfold wp_X11_judged_6
    refine ⟨vp_in_nI (by decide) (by decide), ?_⟩
    rw [hw.rd (by decide) (by decide), nS i]
    refine wf (nI_ge hi (by omega)) ?_
    have lt := tol_lt (rn := rn) (rf := rf) hrf i
    have ld := due_le h rn rf i
    refine m_toldOf hr hg (by omega) ?_
    refine m_dueOf hw H i4 hr hg hrf (by omega) ?_
    refine wc (nI_eq lt (by omega)) (fun k => ih () (frs_sn q (by rw [decide_eq_true k]; rfl))) (fun k => ?_)
    have r := hp g1 g2 g3 g4
    rw [jud_s (frs_of q (by rw [decide_eq_false k]; rfl) hi)] at r
    exact r
end JUD
