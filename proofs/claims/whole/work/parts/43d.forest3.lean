theorem mn2_or (a b : Int) : mn2 a b = a ∨ mn2 a b = b := by unfold mn2; split <;> simp
theorem take_TI {V : Vw} {F : Fo} {d : Int → Int → Int} {k : Int} (h : TI V F d) (hG : Good V) (hk : isE V k = true) (hne : fP F (k / 12) ≠ fP F (k % 12)) :
    TI V (take V k F) (fun x t => if fP F x = fP F (k / 12) ∧ fP F t = fP F (k % 12) then d x (k / 12) + 1 + d (k % 12) t else if fP F x = fP F (k % 12) ∧ fP F t = fP F (k / 12) then d x (k % 12) + 1 + d (k / 12) t else d x t) := by
  obtain ⟨t1, t2, t3, t4, t5⟩ := h
  have hE := gd_E hG (of_decide_eq_true hk)
  have hm := hG.1
  have hP : ∀ x, fP (take V k F) x = if fP F x = fP F (k / 12) ∨ fP F x = fP F (k % 12) then mn2 (fP F (k / 12)) (fP F (k % 12)) else fP F x := fun x => rfl
  have hT : ∀ j, fT (take V k F) j = if j = k then true else fT F j := fun x => rfl
  have hH : ∀ a b, fH (take V k F) a b = if fP F a = fP F (k / 12) ∧ fP F b = fP F (k % 12) then (if a = k / 12 then k % 12 else fH F a (k / 12)) else if fP F a = fP F (k % 12) ∧ fP F b = fP F (k / 12) then (if a = k % 12 then k / 12 else fH F a (k % 12)) else fH F a b := fun a b => rfl
  have hC : ∀ a b, fC (take V k F) a b = if fP F a = fP F (k / 12) ∧ fP F b = fP F (k % 12) then fC F a (k / 12) + ris V k + fC F (k % 12) b else if fP F a = fP F (k % 12) ∧ fP F b = fP F (k / 12) then -(fC F b (k / 12) + ris V k + fC F (k % 12) a) else fC F a b := fun a b => rfl
  have hpk : k = pq (k / 12) (k % 12) := (pq_self hE.2.1 hE.2.2.2.2.1).symm
  have hpk2 : pq (k % 12) (k / 12) = k := by rw [pq_comm (by omega)]; exact hpk.symm
  have hrf : rf V (k / 12) (k % 12) = ris V k ∧ rf V (k % 12) (k / 12) = -ris V k := by
    unfold rf
    rw [if_pos hE.2.2.2.2.1, if_neg (by omega), hpk2, ← hpk]
    exact ⟨rfl, rfl⟩
  have hT0 : fT (take V k F) (pq (k / 12) (k % 12)) = true ∧ fT (take V k F) (pq (k % 12) (k / 12)) = true := by
    rw [hpk2, ← hpk, hT, if_pos rfl]; exact ⟨rfl, rfl⟩
  have ma : mark12 (k / 12) := ⟨by omega, by omega⟩
  have mb : mark12 (k % 12) := ⟨by omega, by omega⟩
  have hab : k / 12 ≠ k % 12 := by omega
  generalize hd' : (fun x t => if fP F x = fP F (k / 12) ∧ fP F t = fP F (k % 12) then d x (k / 12) + 1 + d (k % 12) t else if fP F x = fP F (k % 12) ∧ fP F t = fP F (k / 12) then d x (k % 12) + 1 + d (k / 12) t else d x t) = d'
  have hD : ∀ x t, d' x t = if fP F x = fP F (k / 12) ∧ fP F t = fP F (k % 12) then d x (k / 12) + 1 + d (k % 12) t else if fP F x = fP F (k % 12) ∧ fP F t = fP F (k / 12) then d x (k % 12) + 1 + d (k / 12) t else d x t := fun x t => by rw [← hd']
  clear hd'
  have hmn := mn2_or (fP F (k / 12)) (fP F (k % 12))
  generalize hF' : take V k F = F' at *
  clear hF'
  generalize hmm : mn2 (fP F (k / 12)) (fP F (k % 12)) = mm at *
  generalize ha0 : k / 12 = a0 at *
  generalize hb0 : k % 12 = b0 at *
  generalize hnr : fP F a0 = nr at *
  generalize hfr : fP F b0 = fr at *
  have pj : ∀ x t, fP F' x = fP F' t ↔ (fP F x = fP F t ∨ (fP F x = nr ∧ fP F t = fr) ∨ (fP F x = fr ∧ fP F t = nr)) := by
    intro x t
    rw [hP, hP]
    split <;> split <;> omega
  have dss : ∀ x t, fP F x = fP F t → d' x t = d x t ∧ fC F' x t = fC F x t ∧ fH F' x t = fH F x t := by
    intro x t hx
    rw [hD, hC, hH, if_neg (by omega), if_neg (by omega), if_neg (by omega), if_neg (by omega), if_neg (by omega), if_neg (by omega)]
    exact ⟨rfl, rfl, rfl⟩
  have dnf : ∀ x t, fP F x = nr → fP F t = fr → d' x t = d x a0 + 1 + d b0 t ∧ fC F' x t = fC F x a0 + ris V k + fC F b0 t ∧ fH F' x t = if x = a0 then b0 else fH F x a0 := by
    intro x t h1 h2
    rw [hD, hC, hH, if_pos ⟨h1, h2⟩, if_pos ⟨h1, h2⟩, if_pos ⟨h1, h2⟩]
    exact ⟨rfl, rfl, rfl⟩
  have dfn : ∀ x t, fP F x = fr → fP F t = nr → d' x t = d x b0 + 1 + d a0 t ∧ fC F' x t = -(fC F t a0 + ris V k + fC F b0 x) ∧ fH F' x t = if x = b0 then a0 else fH F x b0 := by
    intro x t h1 h2
    rw [hD, hC, hH, if_neg (by omega), if_pos ⟨h1, h2⟩, if_neg (by omega), if_pos ⟨h1, h2⟩, if_neg (by omega), if_pos ⟨h1, h2⟩]
    exact ⟨rfl, rfl, rfl⟩
  have hTk : ∀ j, fT F j = true → fT F' j = true := fun j hj => by rw [hT]; split; rfl; exact hj
  have za := t1 a0 ma
  have zb := t1 b0 mb
  refine ⟨fun x mx => ?_, fun x t mx mt hp hxt => ?_, fun u v mu mv huv hTuv => ?_, fun x t mx mt hp => ?_, fun j hj => ?_⟩
  · have z := t1 x mx
    have s := dss x x rfl
    refine ⟨by rw [s.1]; exact z.1, by rw [s.2.1]; exact z.2.1, ?_⟩
    rw [hP]
    split
    · rcases hmn with h | h <;> rw [h]
      · rw [← hnr]; exact za.2.2
      · rw [← hfr]; exact zb.2.2
    · exact z.2.2
  · rcases (pj x t).mp hp with h | ⟨h1, h2⟩ | ⟨h1, h2⟩
    · obtain ⟨g1, g2, g3, g4, g5, g6⟩ := t2 x t mx mt h hxt
      have s := dss x t h
      have s2 := dss (fH F x t) t (g3.trans h)
      rw [s.2.2]
      exact ⟨g1, g2, (pj _ _).mpr (Or.inl g3), hTk _ g4, by rw [s.1, s2.1]; exact g5, by rw [s.2.1, s2.2.1]; exact g6⟩
    · have s := dnf x t h1 h2
      by_cases hxa : x = a0
      · subst hxa
        rw [if_pos rfl] at s
        have s2 := dss b0 t (hfr.trans h2.symm)
        rw [s.2.2]
        refine ⟨mb, fun q => hab q.symm, (pj _ _).mpr (Or.inr (Or.inr ⟨hfr, h1⟩)), hT0.1, ?_, ?_⟩
        · rw [s.1, s2.1]; omega
        · rw [s.2.1, s2.2.1, hrf.1]; omega
      · rw [if_neg hxa] at s
        obtain ⟨g1, g2, g3, g4, g5, g6⟩ := t2 x a0 mx ma (h1.trans hnr.symm) hxa
        have s2 := dnf (fH F x a0) t (g3.trans h1) h2
        rw [s.2.2]
        refine ⟨g1, g2, (pj _ _).mpr (Or.inl g3), hTk _ g4, ?_, ?_⟩
        · rw [s.1, s2.1]; omega
        · rw [s.2.1, s2.2.1]; omega
    · have s := dfn x t h1 h2
      by_cases hxb : x = b0
      · subst hxb
        rw [if_pos rfl] at s
        have s2 := dss a0 t (hnr.trans h2.symm)
        have s4 := t4 a0 t ma mt (hnr.trans h2.symm)
        rw [s.2.2]
        refine ⟨ma, hab, (pj _ _).mpr (Or.inr (Or.inl ⟨hnr, h1⟩)), hT0.2, ?_, ?_⟩
        · rw [s.1, s2.1]; omega
        · rw [s.2.1, s2.2.1, hrf.2]; omega
      · rw [if_neg hxb] at s
        obtain ⟨g1, g2, g3, g4, g5, g6⟩ := t2 x b0 mx mb (h1.trans hfr.symm) hxb
        have s2 := dfn (fH F x b0) t (g3.trans h1) h2
        have s3 := t4 x b0 mx mb (h1.trans hfr.symm)
        have s4 := t4 (fH F x b0) b0 g1 mb (by rw [g3, h1, hfr])
        rw [s.2.2]
        refine ⟨g1, g2, (pj _ _).mpr (Or.inl g3), hTk _ g4, ?_, ?_⟩
        · rw [s.1, s2.1]; omega
        · rw [s.2.1, s2.2.1]; omega
  · by_cases hkk : pq u v = k
    · have huv2 : (u = a0 ∧ v = b0) ∨ (u = b0 ∧ v = a0) := by
        have g : pq u v / 12 = a0 ∧ pq u v % 12 = b0 := by rw [hkk]; exact ⟨ha0, hb0⟩
        unfold pq at g
        have := mu; have := mv
        unfold mark12 at *
        split at g <;> omega
      rcases huv2 with ⟨rfl, rfl⟩ | ⟨rfl, rfl⟩
      · refine ⟨(pj _ _).mpr (Or.inr (Or.inl ⟨hnr, hfr⟩)), fun t mt hp => ?_⟩
        have hp2 : fP F t = nr ∨ fP F t = fr := by rcases (pj _ _).mp hp with h | h | h <;> omega
        rcases hp2 with h | h
        · right
          have s1 := dfn v t hfr h
          have s2 := dss u t (hnr.trans h.symm)
          rw [s1.1, s2.1, s1.2.2, if_pos rfl]
          exact ⟨by omega, rfl⟩
        · left
          have s1 := dnf u t hnr h
          have s2 := dss v t (hfr.trans h.symm)
          rw [s1.1, s2.1, s1.2.2, if_pos rfl]
          exact ⟨by omega, rfl⟩
      · refine ⟨(pj _ _).mpr (Or.inr (Or.inr ⟨hfr, hnr⟩)), fun t mt hp => ?_⟩
        have hp2 : fP F t = nr ∨ fP F t = fr := by rcases (pj _ _).mp hp with h | h | h <;> omega
        rcases hp2 with h | h
        · left
          have s1 := dfn u t hfr h
          have s2 := dss v t (hnr.trans h.symm)
          rw [s1.1, s2.1, s1.2.2, if_pos rfl]
          exact ⟨by omega, rfl⟩
        · right
          have s1 := dnf v t hnr h
          have s2 := dss u t (hfr.trans h.symm)
          rw [s1.1, s2.1, s1.2.2, if_pos rfl]
          exact ⟨by omega, rfl⟩
    · rw [hT, if_neg hkk] at hTuv
      obtain ⟨g1, g2⟩ := t3 u v mu mv huv hTuv
      refine ⟨(pj _ _).mpr (Or.inl g1), fun t mt hp => ?_⟩
      rcases (pj _ _).mp hp with h | ⟨h1, h2⟩ | ⟨h1, h2⟩
      · have s1 := dss u t h.symm
        have s2 := dss v t (g1.symm.trans h.symm)
        rw [s1.1, s2.1, s1.2.2, s2.2.2]
        exact g2 t mt h
      · have s1 := dfn u t h2 h1
        have s2 := dfn v t (g1.symm.trans h2) h1
        have g := g2 b0 mb (hfr.trans h2.symm)
        have p1 := (t4 u b0 mu mb (h2.trans hfr.symm)).1
        have p2 := (t4 v b0 mv mb (by rw [← g1, h2, hfr])).1
        rcases g with ⟨g3, g4⟩ | ⟨g3, g4⟩
        · left
          have : u ≠ b0 := fun q => by subst q; omega
          rw [s1.1, s2.1, s1.2.2, if_neg this]
          exact ⟨by omega, g4⟩
        · right
          have : v ≠ b0 := fun q => by subst q; omega
          rw [s1.1, s2.1, s2.2.2, if_neg this]
          exact ⟨by omega, g4⟩
      · have s1 := dnf u t h2 h1
        have s2 := dnf v t (g1.symm.trans h2) h1
        have g := g2 a0 ma (hnr.trans h2.symm)
        have p1 := (t4 u a0 mu ma (h2.trans hnr.symm)).1
        have p2 := (t4 v a0 mv ma (by rw [← g1, h2, hnr])).1
        rcases g with ⟨g3, g4⟩ | ⟨g3, g4⟩
        · left
          have : u ≠ a0 := fun q => by subst q; omega
          rw [s1.1, s2.1, s1.2.2, if_neg this]
          exact ⟨by omega, g4⟩
        · right
          have : v ≠ a0 := fun q => by subst q; omega
          rw [s1.1, s2.1, s2.2.2, if_neg this]
          exact ⟨by omega, g4⟩
  · have hsz : psz F' mm = psz F nr + psz F fr := by
      refine ct_add 12 fun i h0 h1 => ?_
      have e1 : decide (fP F' i = mm) = (decide (fP F i = nr) || decide (fP F i = fr)) := by
        rw [hP]
        by_cases c1 : fP F i = nr <;> by_cases c2 : fP F i = fr <;> simp [c1, c2] <;> omega
      refine ⟨e1, ?_⟩
      by_cases c1 : fP F i = nr <;> by_cases c2 : fP F i = fr <;> simp [c1, c2] <;> omega
    have hsz2 : ∀ p, p ≠ nr → p ≠ fr → psz F' p = psz F p := by
      intro p h1 h2
      refine ct_congr 12 fun i h0 h3 => ?_
      rw [hP]
      by_cases c1 : fP F i = nr <;> by_cases c2 : fP F i = fr <;> simp [c1, c2] <;> omega
    have hsx : psz F' (fP F' x) = if fP F x = nr ∨ fP F x = fr then psz F nr + psz F fr else psz F (fP F x) := by
      rw [hP]
      split
      · exact hsz
      · exact hsz2 _ (by omega) (by omega)
    rcases (pj x t).mp hp with h | ⟨h1, h2⟩ | ⟨h1, h2⟩
    · have s := dss x t h
      have s2 := dss t x h.symm
      have g := t4 x t mx mt h
      rw [s.1, s.2.1, s2.2.1, hsx]
      refine ⟨g.1, ?_, g.2.2⟩
      split
      · rename_i hc
        rcases hc with hc | hc <;> rw [hc] at g <;> omega
      · exact g.2.1
    · have s := dnf x t h1 h2
      have s2 := dfn t x h2 h1
      have g1 := t4 x a0 mx ma (h1.trans hnr.symm)
      have g2 := t4 b0 t mb mt (hfr.trans h2.symm)
      rw [s.1, s.2.1, s2.2.1, hsx, if_pos (Or.inl h1)]
      rw [h1] at g1
      rw [hfr] at g2
      exact ⟨by omega, by omega, by omega⟩
    · have s := dfn x t h1 h2
      have s2 := dnf t x h2 h1
      have g1 := t4 x b0 mx mb (h1.trans hfr.symm)
      have g2 := t4 a0 t ma mt (hnr.trans h2.symm)
      rw [s.1, s.2.1, s2.2.1, hsx, if_pos (Or.inr h1)]
      rw [h1] at g1
      rw [hnr] at g2
      exact ⟨by omega, by omega, by omega⟩
  · rw [hT] at hj
    split at hj
    · rename_i h; rw [h]; exact hk
    · exact t5 j hj
theorem gro_TI {V : Vw} (hG : Good V) : ∀ i : Nat, i ≤ nE V → ∃ d : Int → Int → Int, TI V (gro V i) d := by
  intro i
  induction i with
  | zero => intro _; exact ⟨_, fo0_TI V⟩
  | succ i ih =>
    intro hi
    obtain ⟨d, h⟩ := ih (by omega)
    simp only [gro]
    unfold stp
    split
    · exact ⟨d, h⟩
    · rename_i hne
      exact ⟨_, take_TI h hG ((so_ok V).2.1 i (by omega) (by omega)).2.2 hne⟩
