/-! ALL THAT AN OBJECT KNOWS: the book, what may be undone, the image, the tape, the sheets -/
abbrev zP : Type := (Nat → zD) × Nat
abbrev zH : Type := (Nat → Nat) × (Nat → Nat) × (Nat → Nat → Int64)
abbrev zG : Type := zD × zP × (Bool × zD × zP) × ((Nat → Nat) × Nat) × zH
def gset (G : zG) (D : zD) : zG := (D, G.2)
def pkeep (D : zD) (p : zP) : zP := if p.2 < 6 then (fun j => if j = p.2 then D else p.1 j, p.2 + 1) else (fun j => if j = 5 then D else p.1 (j + 1), 6)
def gkp (G : zG) : zG := (G.1, pkeep G.1 G.2.1, G.2.2)
def gtape (G : zG) (t : (Nat → Nat) × Nat) : zG := (G.1, G.2.1, G.2.2.1, t, G.2.2.2.2)
def gsh (G : zG) (h : zH) : zG := (G.1, G.2.1, G.2.2.1, G.2.2.2.1, h)
/-- a book's cells seen from b on as if they lay at 1 .. 16 -/
abbrev vw (b : Nat) (S : zS) : zS := (fun a k => S.1 (b + (a - 1)) k, S.2)
def CRb (b : Nat) (S : zS) (D : zD) : Prop := CR (vw b S) D
theorem CR.same {S S' : zS} {D : zD} (h : CR S D) (h60 : D 6 0 ≤ 232) (h61 : D 6 1 ≤ 192) (he : ∀ o k, o < 16 → vald o k = true → S'.1 (1 + o) k = S.1 (1 + o) k) : CR S' D := by
  obtain ⟨h1, h2, h3, h4, h5, h6, h7⟩ := h
  have w : ∀ o k, o < 16 → vald o k = true → S'.1 (1 + o) k = S.1 (1 + o) k := he
  refine ⟨⟨fun m hm => ?_, fun v a b => ?_, h1.2.2⟩, ⟨?_, fun k hk => ⟨?_, ?_, ?_⟩⟩, fun v a b => ?_, ⟨?_, fun i hi => ⟨?_, ?_, ?_⟩⟩, ⟨?_, ?_, ?_⟩, ⟨?_, ?_⟩, fun m hm => ?_, fun m hm => ?_, fun m hm => ?_⟩
  · exact (w 2 m (by decide) (decide_eq_true hm)).trans (h1.1 m hm)
  · exact (w 3 v (by decide) (decide_eq_true b)).trans (h1.2.1 v a b)
  · exact (w 4 0 (by decide) rfl).trans h2.1
  · exact (w 5 k (by decide) (decide_eq_true (show k < 232 by omega))).trans (h2.2 k hk).1
  · exact (w 6 k (by decide) (decide_eq_true (show k < 232 by omega))).trans (h2.2 k hk).2.1
  · exact (w 7 k (by decide) (decide_eq_true (show k < 232 by omega))).trans (h2.2 k hk).2.2
  · exact (w 8 v (by decide) (decide_eq_true b)).trans (h3 v a b)
  · exact (w 9 0 (by decide) rfl).trans h4.1
  · exact (w 10 i (by decide) (decide_eq_true (show i < 192 by omega))).trans (h4.2 i hi).1
  · exact (w 11 i (by decide) (decide_eq_true (show i < 192 by omega))).trans (h4.2 i hi).2.1
  · exact (w 12 i (by decide) (decide_eq_true (show i < 192 by omega))).trans (h4.2 i hi).2.2
  · exact (w 0 3 (by decide) rfl).trans h5.1
  · exact (w 0 4 (by decide) rfl).trans h5.2.1
  · exact (w 0 5 (by decide) rfl).trans h5.2.2
  · exact (w 0 6 (by decide) rfl).trans h6.1
  · exact (w 0 7 (by decide) rfl).trans h6.2
  · exact (w 13 m (by decide) (decide_eq_true hm)).trans (h7.1 m hm)
  · exact fun q1 q2 => (w 14 m (by decide) (decide_eq_true hm)).trans (h7.2.1 m hm q1 q2)
  · exact fun q1 => (w 15 m (by decide) (decide_eq_true hm)).trans (h7.2.2 m hm q1)
theorem vw_1 (S : zS) (o k : Nat) : (vw 1 S).1 (1 + o) k = S.1 (1 + o) k := by
  show S.1 (1 + (1 + o - 1)) k = _
  rw [Nat.add_sub_cancel_left]
theorem CRb_1 {S : zS} {D : zD} (hI : INV D) : CRb 1 S D ↔ CR S D := by
  have h1 := hI.made
  have h2 := hI.written
  constructor
  · intro h; exact CR.same h (by omega) (by omega) (fun o k _ _ => (vw_1 S o k).symm)
  · intro h; exact CR.same h (by omega) (by omega) (fun o k _ _ => vw_1 S o k)
theorem CRb.fr {b : Nat} {S S' : zS} {D : zD} (h : CRb b S D) (hI : INV D) (he : ∀ a, b ≤ a → a < b + 16 → S'.1 a = S.1 a) : CRb b S' D := by
  have h1 := hI.made
  have h2 := hI.written
  exact CR.same h (by omega) (by omega) (fun o k ho _ => by
    show S'.1 (b + (1 + o - 1)) k = S.1 (b + (1 + o - 1)) k
    rw [he _ (by omega) (by omega)])
theorem CRb.tk {d s : Nat} {S S' : zS} {D : zD} (h : CRb s S D) (hI : INV D) (ht : TKp d s S S') : CRb d S' D := by
  have h1 := hI.made
  have h2 := hI.written
  exact CR.same h (by omega) (by omega) (fun o k ho hk => by
    show S'.1 (d + (1 + o - 1)) k = S.1 (s + (1 + o - 1)) k
    rw [Nat.add_sub_cancel_left]
    exact ht.2.2 o k ho hk)
/-- what may be undone: the cell c tells it, its books lie from bb on -/
def PRr (S : zS) (c bb : Nat) (p : zP) : Prop := S.1 c 1 = nI p.2 ∧ p.2 ≤ 6 ∧ ∃ x, x < 6 ∧ S.1 c 2 = nI x ∧ ∀ j, j < p.2 → CRb (bb + 16 * ((x + 6 - p.2 + j) % 6)) S (p.1 j)
def pok (p : zP) : Prop := p.2 ≤ 6 ∧ ∀ j, j < p.2 → INV (p.1 j)
theorem PRr.fr {S S' : zS} {c bb : Nat} {p : zP} (h : PRr S c bb p) (hp : pok p) (hc : S'.1 c = S.1 c) (he : ∀ a, bb ≤ a → a < bb + 96 → S'.1 a = S.1 a) : PRr S' c bb p := by
  obtain ⟨h1, h2, x, hx, h3, h4⟩ := h
  refine ⟨by rw [hc]; exact h1, h2, x, hx, by rw [hc]; exact h3, fun j hj => (h4 j hj).fr (hp.2 j hj) (fun a q1 q2 => he a (by omega) ?_)⟩
  have := Nat.mod_lt (x + 6 - p.2 + j) (show 0 < 6 by decide)
  omega
/-- the sheets -/
def SHR (S : zS) (h : zH) : Prop := ∀ t, t < 4 → S.1 (237 + 2 * t) 1 = caI (h.1 t) ∧ S.1 (237 + 2 * t) 2 = nI (h.2.1 t) ∧ h.2.1 t ≤ 24 ∧ h.1 t ≤ 4 ∧ ∀ k, k < h.2.1 t → S.2 (238 + 2 * t) k = h.2.2 t k
def CG (S : zS) (G : zG) : Prop := CR S G.1 ∧ PRr S 17 19 G.2.1 ∧ (S.1 0 4 = zb G.2.2.1.1 ∧ (G.2.2.1.1 = true → CRb 115 S G.2.2.1.2.1 ∧ PRr S 131 133 G.2.2.1.2.2)) ∧ TR S G.2.2.2.1.1 G.2.2.2.1.2 ∧ SHR S G.2.2.2.2
def GI (G : zG) : Prop := INV G.1 ∧ pok G.2.1 ∧ (G.2.2.1.1 = true → INV G.2.2.1.2.1 ∧ pok G.2.2.1.2.2) ∧ (G.2.2.2.1.2 ≤ 90 ∧ ∀ i, i < G.2.2.2.1.2 → 32 ≤ G.2.2.2.1.1 i ∧ G.2.2.2.1.1 i ≤ 126) ∧ ∀ t, t < 4 → G.2.2.2.2.1 t ≤ 4 ∧ G.2.2.2.2.2.1 t ≤ 24
/-- the other object's cells stay -/
def zfc (S S' : zS) : Prop := ∀ a, 245 ≤ a → S'.1 a = S.1 a ∧ S'.2 a = S.2 a
theorem zfc.rf {S : zS} : zfc S S := fun _ _ => ⟨rfl, rfl⟩
theorem zfc.tr {S S' S'' : zS} (h : zfc S S') (h' : zfc S' S'') : zfc S S'' := fun a ha => ⟨(h' a ha).1.trans (h a ha).1, (h' a ha).2.trans (h a ha).2⟩
theorem zfrm.c {lo hi : Nat} {S S' : zS} (h : zfrm lo hi S S') (hh : hi ≤ 245) : zfc S S' := fun a ha => ⟨h.1 a (by omega), by rw [h.2]⟩
theorem TR.fr {S S' : zS} {tp : Nat → Nat} {tn : Nat} (h : TR S tp tn) (h1 : S'.1 229 = S.1 229) (h2 : S'.1 230 = S.1 230) : TR S' tp tn := by
  unfold TR; rw [h1, h2]; exact h
theorem SHR.fr {S S' : zS} {h : zH} (hh : SHR S h) (h1 : ∀ a, 237 ≤ a → a < 245 → S'.1 a = S.1 a ∧ S'.2 a = S.2 a) : SHR S' h := fun t ht => by
  rw [(h1 (237 + 2 * t) (by omega) (by omega)).1, (h1 (238 + 2 * t) (by omega) (by omega)).2]; exact hh t ht
/-- cells 1 .. 16 change alone, or the scratch 232 .. 236 -/
theorem CG.book {S S' : zS} {G : zG} (h : CG S G) (hI : GI G) {D : zD} (hC : CR S' D) (hf : zfrm 1 17 S S') : CG S' (gset G D) := by
  obtain ⟨h1, h2, h3, h4, h5⟩ := h
  obtain ⟨i1, i2, i3, i4⟩ := hI
  refine ⟨hC, h2.fr i2 (hf.1 _ (by decide)) (fun a q1 q2 => hf.1 a (by omega)), ⟨by rw [hf.1 0 (by decide)]; exact h3.1, fun q => ⟨(h3.2 q).1.fr (i3 q).1 (fun a q1 q2 => hf.1 a (by omega)), (h3.2 q).2.fr (i3 q).2 (hf.1 _ (by decide)) (fun a q1 q2 => hf.1 a (by omega))⟩⟩, h4.fr (hf.1 _ (by decide)) (hf.1 _ (by decide)), h5.fr (fun a q1 q2 => ⟨hf.1 a (by omega), by rw [hf.2]⟩)⟩
theorem CG.scr {S S' : zS} {G : zG} (h : CG S G) (hI : GI G) (hf : zfrm 232 237 S S') : CG S' G := by
  obtain ⟨h1, h2, h3, h4, h5⟩ := h
  obtain ⟨i1, i2, i3, i4⟩ := hI
  have hC : CR S' G.1 := (CRb_1 i1).mp (((CRb_1 i1).mpr h1).fr i1 (fun a q1 q2 => hf.1 a (by omega)))
  exact ⟨hC, h2.fr i2 (hf.1 _ (by decide)) (fun a q1 q2 => hf.1 a (by omega)), ⟨by rw [hf.1 0 (by decide)]; exact h3.1, fun q => ⟨(h3.2 q).1.fr (i3 q).1 (fun a q1 q2 => hf.1 a (by omega)), (h3.2 q).2.fr (i3 q).2 (hf.1 _ (by decide)) (fun a q1 q2 => hf.1 a (by omega))⟩⟩, h4.fr (hf.1 _ (by decide)) (hf.1 _ (by decide)), h5.fr (fun a q1 q2 => ⟨hf.1 a (by omega), by rw [hf.2]⟩)⟩
theorem GI.set {G : zG} (h : GI G) {D : zD} (hD : INV D) : GI (gset G D) := ⟨hD, h.2⟩
theorem pkeep_ok {D : zD} {p : zP} (hD : INV D) (hp : pok p) : pok (pkeep D p) := by
  unfold pkeep
  split
  next h =>
    refine ⟨by show p.2 + 1 ≤ 6; omega, fun j hj => ?_⟩
    replace hj : j < p.2 + 1 := hj
    show INV (if j = p.2 then D else p.1 j)
    split
    · exact hD
    · exact hp.2 j (by omega)
  next h =>
    refine ⟨Nat.le_refl 6, fun j hj => ?_⟩
    replace hj : j < 6 := hj
    show INV (if j = 5 then D else p.1 (j + 1))
    split
    · exact hD
    · exact hp.2 (j + 1) (by omega)
theorem GI.kp {G : zG} (h : GI G) : GI (gkp G) := ⟨h.1, pkeep_ok h.1 h.2.1, h.2.2⟩
/-- what is kept ahead of a doing -/
theorem keepOK {S : zS} {G : zG} (h : CG S G) (hI : GI G) {Q : Option Value → zS → Prop} (hQ : ∀ S', CG S' (gkp G) → zfc S S' → Q none S') : spX3_keep [.ref 17, .ref 1] S Q := by
  obtain ⟨h1, ⟨hn, hn6, x, hx, hx2, hP⟩, h3, h4, h5⟩ := h
  obtain ⟨i1, i2, i3, i4⟩ := hI
  refine ⟨G.2.1.2, x, rfl, hn, hn6, hx2, hx, fun S1 ht => hQ _ ?_ ?_⟩
  · have e : ∀ a, a ≠ 17 → (a < 19 + 16 * x ∨ 19 + 16 * x + 16 ≤ a) → (zput (zput S1 17 2 (nI ((x + 1) % 6))) 17 1 (nI (min (G.2.1.2 + 1) 6))).1 a = S.1 a := fun a q1 q2 => by
      rw [zput_ne _ _ q1, zput_ne _ _ q1, ht.1 a q2]
    have e2 : (zput (zput S1 17 2 (nI ((x + 1) % 6))) 17 1 (nI (min (G.2.1.2 + 1) 6))).2 = S.2 := ht.2.1
    have e1 : (zput (zput S1 17 2 (nI ((x + 1) % 6))) 17 1 (nI (min (G.2.1.2 + 1) 6))).1 17 1 = nI (min (G.2.1.2 + 1) 6) := zput_at _ _ _ _
    have e3 : (zput (zput S1 17 2 (nI ((x + 1) % 6))) 17 1 (nI (min (G.2.1.2 + 1) 6))).1 17 2 = nI ((x + 1) % 6) := by rw [zput_k _ _ (by decide), zput_at]
    have eb : CRb (19 + 16 * x) (zput (zput S1 17 2 (nI ((x + 1) % 6))) 17 1 (nI (min (G.2.1.2 + 1) 6))) G.1 := by
      refine (((CRb_1 i1).mpr h1).tk i1 ht).fr i1 (fun a q1 q2 => ?_)
      rw [zput_ne _ _ (by omega), zput_ne _ _ (by omega)]
    generalize zput (zput S1 17 2 (nI ((x + 1) % 6))) 17 1 (nI (min (G.2.1.2 + 1) 6)) = S2 at *
    refine ⟨(CRb_1 i1).mp (((CRb_1 i1).mpr h1).fr i1 (fun a q1 q2 => e a (by omega) (by omega))), ?_, ⟨by rw [e 0 (by decide) (by omega)]; exact h3.1, fun q => ⟨(h3.2 q).1.fr (i3 q).1 (fun a q1 q2 => e a (by omega) (by omega)), (h3.2 q).2.fr (i3 q).2 (e _ (by decide) (by omega)) (fun a q1 q2 => e a (by omega) (by omega))⟩⟩, h4.fr (e _ (by decide) (by omega)) (e _ (by decide) (by omega)), h5.fr (fun a q1 q2 => ⟨e a (by omega) (by omega), by rw [e2]⟩)⟩
    show PRr S2 17 19 (pkeep G.1 G.2.1)
    have old : ∀ j, j < G.2.1.2 → (x + 6 - G.2.1.2 + j) % 6 ≠ x → CRb (19 + 16 * ((x + 6 - G.2.1.2 + j) % 6)) S2 (G.2.1.1 j) := fun j hj hne => by
      refine (hP j hj).fr (i2.2 j hj) (fun a q1 q2 => e a ?_ ?_)
      · omega
      · have := Nat.mod_lt (x + 6 - G.2.1.2 + j) (show 0 < 6 by decide)
        omega
    unfold pkeep
    split
    next hlt =>
      refine ⟨?_, by show G.2.1.2 + 1 ≤ 6; omega, (x + 1) % 6, Nat.mod_lt _ (by decide), e3, fun j hj => ?_⟩
      · rw [e1, Nat.min_eq_left (by omega)]
      · replace hj : j < G.2.1.2 + 1 := hj
        show CRb (19 + 16 * (((x + 1) % 6 + 6 - (G.2.1.2 + 1) + j) % 6)) S2 (if j = G.2.1.2 then G.1 else G.2.1.1 j)
        by_cases q : j = G.2.1.2
        · rw [if_pos q, show ((x + 1) % 6 + 6 - (G.2.1.2 + 1) + j) % 6 = x by omega]
          exact eb
        · rw [if_neg q, show ((x + 1) % 6 + 6 - (G.2.1.2 + 1) + j) % 6 = (x + 6 - G.2.1.2 + j) % 6 by omega]
          exact old j (by omega) (by omega)
    next hlt =>
      have h6 : G.2.1.2 = 6 := by omega
      refine ⟨?_, Nat.le_refl 6, (x + 1) % 6, Nat.mod_lt _ (by decide), e3, fun j hj => ?_⟩
      · rw [e1, h6]; rfl
      · replace hj : j < 6 := hj
        show CRb (19 + 16 * (((x + 1) % 6 + 6 - 6 + j) % 6)) S2 (if j = 5 then G.1 else G.2.1.1 (j + 1))
        by_cases q : j = 5
        · rw [if_pos q, show ((x + 1) % 6 + 6 - 6 + j) % 6 = x by omega]
          exact eb
        · have := old (j + 1) (by omega) (by omega)
          rw [if_neg q, show ((x + 1) % 6 + 6 - 6 + j) % 6 = (x + 6 - G.2.1.2 + (j + 1)) % 6 by omega]
          exact this
  · intro a ha
    refine ⟨?_, by show S1.2 a = S.2 a; rw [ht.2.1]⟩
    rw [zput_ne _ _ (by omega), zput_ne _ _ (by omega), ht.1 a (by omega)]
