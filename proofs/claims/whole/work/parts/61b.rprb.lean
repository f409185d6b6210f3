/-! ===== the reference's tokens ===== -/
def Tr (I : IM) (l : List Int) (t : Tk) : Prop := I 200 22 = tE t ∧ I 200 23 = tS t ∧ (tK t < 11 → I 200 24 = 1 ∧ I 200 25 = rpK (tK t)) ∧ (tK t = 11 → I 200 24 = 1 ∧ I 200 25 = -1 ∧ tE t - tS t ≤ 6 ∧ tN t = nms l (tS t) (tE t - tS t) ∧ tE t ≤ ru isLt l (tS t)) ∧ (tK t = 12 → I 200 24 = 2 ∧ I 200 26 = tV t) ∧ (tK t = 13 → I 200 24 = 4) ∧ (tK t = 14 → I 200 24 = 3) ∧ (tK t = 15 → I 200 24 = 0) ∧ (tK t = 16 → I 200 24 = 5 ∨ (I 200 24 = 1 ∧ I 200 25 = -1 ∧ 6 < tE t - tS t))
/-- a token was read -/
def Nx (I I' : IM) : Prop := (∀ q, q ≠ 200 → I' q = I q) ∧ ∀ k, k < 22 ∨ 26 < k → I' 200 k = I 200 k
theorem Nx.trans {I I' I2 : IM} (h : Nx I I') (h2 : Nx I' I2) : Nx I I2 := ⟨fun q a => by rw [h2.1 q a, h.1 q a], fun k a => by rw [h2.2 k a, h.2 k a]⟩
theorem Nx.refl (I : IM) : Nx I I := ⟨fun _ _ => rfl, fun _ _ => rfl⟩
theorem Nx.up {I : IM} {k : Nat} {v : Int} (h : 22 ≤ k ∧ k ≤ 26) : Nx I (up I 200 k v) := ⟨fun q a => up_qf a, fun k a => up_k (by omega)⟩
theorem Nx.pt {I I' : IM} {l : List Int} (h : Nx I I') (hP : Pt I l) : Pt I' l := ⟨by rw [h.2 21 (by omega)]; exact hP.1, fun k hk => by rw [h.1 215 (by omega)]; exact hP.2.1 k hk, hP.2.2⟩
theorem Tr.keep {I I' : IM} {l : List Int} {t : Tk} (h : Tr I l t) (f : ∀ k : Int, 22 ≤ k → k ≤ 26 → I' 200 k = I 200 k) : Tr I' l t := by
  unfold Tr at *
  rw [f 22 (by omega) (by omega), f 23 (by omega) (by omega), f 24 (by omega) (by omega), f 25 (by omega) (by omega), f 26 (by omega) (by omega)]
  exact h
section Rp61b
variable {e : Nat} {I J : IM} {Q : Post} {V : Vw} {H : Hw} {a b v : Int} {l : List Int} {t : Tk}
theorem sp_X11_next (hP : Pt I l) {p : Nat} (hp : p ≤ l.length) (h22 : I 200 22 = p) (hQ : ∀ I' : IM, Nx I I' → Tr I' l (tk l p) → Q (.inl none) (ME e I' J)) : SX11_next [.ref 200] (ME e I J) Q := by
  refine x_in (Nat.le_of_ble_eq_true rfl) ?_
  have b900 := hP.2.2.1
  have hB := hP.2.2
  have L := ru_ok (P := isBl) (l := l) (p := p) hp rfl
  unfold tk at hQ
  generalize ru isBl l p = z at *
  have key : ∀ (d : Nat) (I1 : IM), d ≤ z - p → Nx I I1 → I1 200 22 = ((z - d : Nat) : Int) → bX11_next (fx bX11_next) 0 [.ref 200] (ME e I1 J) Q := by
    intro d
    induction d with
    | zero =>
      intro I1 _ f1 e1
      dsimp only [bX11_next, bX11_next_0]
      ((try rw [show (0 : Int32) = i32 (0) from rfl]); (try rw [show (1 : Int32) = i32 (1) from rfl]); (try rw [show (-1 : Int32) = i32 (-1) from rfl]); (try rw [show (3 : Int32) = i32 (3) from rfl]); (try rw [show (4 : Int32) = i32 (4) from rfl]); (try rw [show (5 : Int32) = i32 (5) from rfl]); (try rw [show (10 : Int32) = i32 (10) from rfl]); (try rw [show (32 : Int32) = i32 (32) from rfl]); (try rw [show (45 : Int32) = i32 (45) from rfl]); (try rw [show (59 : Int32) = i32 (59) from rfl]); (try simp only [i32_add, i32_sub, i32_mul, i32_neg]))
      have P1 := f1.pt hP
      have br := bt_rg hB z
      have nb : ¬ (bt l z = 32 ∨ bt l z = 10) := fun q => by have := isBl_iff.mpr q; rw [L.2.2.2] at this; exact absurd this (by decide)
      have g : I1 200 ((22 : Nat) : Int) = (z : Int) := e1
      refine x_gI rfl ?_
      rw [g]
      refine x_ob rfl (x_cI (sp_X11_here P1 L.2.1 (x_eq (by omega) (by omega) (fun h => absurd (Or.inl h) nb) (fun _ => x_gI rfl ?_))))
      rw [g]
      refine x_ob rfl (x_cI (sp_X11_here P1 L.2.1 (x_eq (by omega) (by omega) (fun h => absurd (Or.inr h) nb) (fun _ => x_gI rfl ?_))))
      rw [g]
      refine x_pI rfl (x_gI rfl ?_)
      have f2 := f1.trans (Nx.up (I := I1) (k := 23) (v := (z : Int)) (by omega))
      have g2 : up I1 200 ((23 : Nat) : Int) z 200 ((22 : Nat) : Int) = (z : Int) := by rw [up_k (by omega)]; exact e1
      have g3 : up I1 200 ((23 : Nat) : Int) z 200 ((23 : Nat) : Int) = (z : Int) := up_self
      have P2 := f2.pt hP
      generalize up I1 200 ((23 : Nat) : Int) z = I2 at *
      rw [g2]
      refine x_ob rfl (x_cI (sp_X11_here P2 L.2.1 (x_eq (by omega) (by omega) (fun hE => x_pI rfl (x_rV ?_)) (fun hE => x_gI rfl ?_))))
      · -- the end
        have n1 : ¬ isLt (bt l z) = true := fun q => by have := isLt_iff.mp q; omega
        have n2 : ¬ isDg (bt l z) = true := fun q => by have := isDg_iff.mp q; omega
        rw [if_neg n1, if_neg n2, if_pos hE] at hQ
        refine hQ _ (f2.trans (Nx.up (by omega))) ⟨by rw [up_k (by omega)]; exact g2, by rw [up_k (by omega)]; exact g3, fun h => absurd h (by show ¬ 15 < 11; omega), fun h => absurd h (by show ¬ 15 = 11; omega), fun h => absurd h (by show ¬ 15 = 12; omega), fun h => absurd h (by show ¬ 15 = 13; omega), fun h => absurd h (by show ¬ 15 = 14; omega), fun _ => by rw [show ((24 : Nat) : Int) = 24 from rfl, up_self], fun h => absurd h (by show ¬ 15 = 16; omega)⟩
      · rw [g2]
        have hzl : z < l.length := by
          rcases Nat.lt_or_ge z l.length with h | h
          · exact h
          · exact absurd (bt_end h) hE
        refine x_ob rfl (x_cI (sp_X11_isLetter P2 L.2.1 ?_))
        by_cases c1 : isLt (bt l z) = true
        · -- a word
          rw [if_pos c1] at hQ ⊢
          have M := ru_ok (P := isLt) L.2.1 rfl
          refine x_eq (by omega) (by omega) (fun h => by omega) (fun _ => ?_)
          have zz : z < ru isLt l z := by
            by_cases h2 : ru isLt l z = z
            · rw [h2] at M; rw [c1] at M; exact absurd M.2.2.2 (by decide)
            · omega
          generalize hy : ru isLt l z = y at *
          refine x_for (y - z) (fun i av μ => ∃ I3 : IM, av = [.ref 200] ∧ μ = ME e I3 J ∧ Nx I I3 ∧ I3 200 22 = ((z + i : Nat) : Int) ∧ I3 200 23 = (z : Int)) ?_ ?_ (Nat.zero_le _) ⟨I2, rfl, rfl, f2, g2, g3⟩
          · rintro i av μ hi ⟨I3, rfl, rfl, f3, a2, a3⟩ hJ
            dsimp only [bX11_next, bX11_next_1]
            ((try rw [show (0 : Int32) = i32 (0) from rfl]); (try rw [show (1 : Int32) = i32 (1) from rfl]); (try simp only [i32_add, i32_sub, i32_mul, i32_neg]))
            have P3 := f3.pt hP
            refine x_gI rfl ?_
            rw [show I3 200 ((22 : Nat) : Int) = ((z + i : Nat) : Int) from a2]
            refine x_ob rfl (x_cI (sp_X11_isLetter P3 (by omega) ?_))
            rw [if_pos (M.2.2.1 (z + i) (by omega) (by omega))]
            refine x_eq (by omega) (by omega) (fun h => by omega) (fun _ => x_gI rfl ?_)
            rw [show I3 200 ((22 : Nat) : Int) = ((z + i : Nat) : Int) from a2, i32_add]
            refine x_pI rfl (hJ _ _ ⟨_, rfl, rfl, f3.trans (Nx.up (by omega)), ?_, by rw [up_k (by omega)]; exact a3⟩)
            rw [show ((22 : Nat) : Int) = 22 from rfl, up_self]; omega
          · rintro av μ ⟨I3, rfl, rfl, f3, a2, a3⟩
            dsimp only [bX11_next, bX11_next_1]
            ((try rw [show (0 : Int32) = i32 (0) from rfl]); (try rw [show (1 : Int32) = i32 (1) from rfl]); (try simp only [i32_add, i32_sub, i32_mul, i32_neg]))
            rw [show z + (y - z) = y by omega] at a2
            have P3 := f3.pt hP
            refine x_gI rfl ?_
            rw [show I3 200 ((22 : Nat) : Int) = (y : Int) from a2]
            refine x_ob rfl (x_cI (sp_X11_isLetter P3 (by omega) ?_))
            rw [if_neg (by rw [M.2.2.2]; decide)]
            refine x_eq (by omega) (by omega) (fun _ => x_pI rfl ?_) (fun h => absurd rfl h)
            have f4 := f3.trans (Nx.up (I := I3) (k := 24) (v := 1) (by omega))
            have b2 : up I3 200 ((24 : Nat) : Int) 1 200 22 = (y : Int) := by rw [up_k (by omega)]; exact a2
            have b3 : up I3 200 ((24 : Nat) : Int) 1 200 23 = (z : Int) := by rw [up_k (by omega)]; exact a3
            have b4 : up I3 200 ((24 : Nat) : Int) 1 200 24 = 1 := by rw [show ((24 : Nat) : Int) = 24 from rfl, up_self]
            generalize up I3 200 ((24 : Nat) : Int) 1 = I4 at *
            refine x_ob rfl (x_cI (sp_X11_wordHere (f4.pt hP) b3 b2 (by omega) (by rw [hy]; exact Nat.le_refl _) (by omega) (x_pI rfl (x_rV ?_))))
            have ln := nms_len l z (y - z)
            have kr := kw_rg (nms l z (y - z))
            have klen : kw (nms l z (y - z)) < 11 → y - z ≤ 6 := fun h => by
              have := (kwL_ok _ h).2.1
              rw [show kwL (kw (nms l z (y - z))) = nms l z (y - z) from kwf_eq (nms l z (y - z)) 11 (Nat.le_refl _) h, ln] at this
              exact this
            refine hQ _ (f4.trans (Nx.up (by omega))) ⟨by rw [up_k (by omega)]; exact b2, by rw [up_k (by omega)]; exact b3, fun h => ?_, fun h => ?_, fun h => ?_, fun h => ?_, fun h => ?_, fun h => ?_, fun h => ?_⟩
            · have h : (if y - z ≤ 6 then kw (nms l z (y - z)) else 16) < 11 := h
              split at h
              · rename_i h6
                refine ⟨by rw [up_k (by omega)]; exact b4, ?_⟩
                rw [show ((25 : Nat) : Int) = 25 from rfl, up_self, if_pos h]
                show _ = (rpK (if y - z ≤ 6 then kw (nms l z (y - z)) else 16) : Int)
                rw [if_pos h6]
              · omega
            · have h : (if y - z ≤ 6 then kw (nms l z (y - z)) else 16) = 11 := h
              split at h
              · rename_i h6
                refine ⟨by rw [up_k (by omega)]; exact b4, ?_, h6, rfl, ?_⟩
                · rw [show ((25 : Nat) : Int) = 25 from rfl, up_self, if_neg (by omega)]
                · show y ≤ ru isLt l z
                  omega
              · omega
            · have h : (if y - z ≤ 6 then kw (nms l z (y - z)) else 16) = 12 := h
              split at h <;> omega
            · have h : (if y - z ≤ 6 then kw (nms l z (y - z)) else 16) = 13 := h
              split at h <;> omega
            · have h : (if y - z ≤ 6 then kw (nms l z (y - z)) else 16) = 14 := h
              split at h <;> omega
            · have h : (if y - z ≤ 6 then kw (nms l z (y - z)) else 16) = 15 := h
              split at h <;> omega
            · have h : (if y - z ≤ 6 then kw (nms l z (y - z)) else 16) = 16 := h
              split at h
              · omega
              · refine Or.inr ⟨by rw [up_k (by omega)]; exact b4, ?_, by show 6 < y - z; omega⟩
                rw [show ((25 : Nat) : Int) = 25 from rfl, up_self, if_neg (fun q => by have := klen q; omega)]
        · rw [if_neg c1] at hQ ⊢
          refine x_eq (by omega) (by omega) (fun _ => ?_) (fun h => absurd rfl h)
          rw [i32_long (by omega) (by omega), show (48 : Int64) = i64 48 from rfl, show (57 : Int64) = i64 57 from rfl]
          refine x_cI (sp_X11_isIn (by omega) (by omega) (by omega) ?_)
          by_cases c2 : isDg (bt l z) = true
          · -- a number
            rw [if_pos c2] at hQ
            rw [if_pos (isDg_iff.mp c2)]
            have M := ru_ok (P := isDg) L.2.1 rfl
            refine x_eq (by omega) (by omega) (fun h => by omega) (fun _ => x_pI rfl ?_)
            have zz : z < ru isDg l z := by
              by_cases h2 : ru isDg l z = z
              · rw [h2] at M; rw [c2] at M; exact absurd M.2.2.2 (by decide)
              · omega
            generalize hy : ru isDg l z = y at *
            have vb : ∀ i, i ≤ 5 → z + i ≤ y → 0 ≤ vls l z i ∧ vls l z i ≤ 99999 := fun i h5 h6 => by
              have := vls_bd (l := l) (s := z) i h5 (fun j a b => M.2.2.1 j a (by omega))
              exact ⟨this.1, this.2.1⟩
            refine x_for (y - z) (fun i av μ => ∃ I3 : IM, av = [.ref 200] ∧ μ = ME e I3 J ∧ Nx I I3 ∧ I3 200 22 = ((z + i : Nat) : Int) ∧ I3 200 23 = (z : Int) ∧ I3 200 26 = vls l z (min i 5)) ?_ ?_ (Nat.zero_le _) ⟨_, rfl, rfl, f2.trans (Nx.up (by omega)), by rw [up_k (by omega)]; exact g2, by rw [up_k (by omega)]; exact g3, by rw [show ((26 : Nat) : Int) = 26 from rfl, up_self]; rfl⟩
            · rintro i av μ hi ⟨I3, rfl, rfl, f3, a2, a3, a6⟩ hJ
              dsimp only [bX11_next, bX11_next_2]
              ((try rw [show (0 : Int32) = i32 (0) from rfl]); (try rw [show (1 : Int32) = i32 (1) from rfl]); (try rw [show (5 : Int32) = i32 (5) from rfl]); (try rw [show (10 : Int32) = i32 (10) from rfl]); (try rw [show (48 : Int32) = i32 (48) from rfl]); (try simp only [i32_add, i32_sub, i32_mul, i32_neg]))
              have P3 := f3.pt hP
              have dd := isDg_iff.mp (M.2.2.1 (z + i) (by omega) (by omega))
              have g22 : I3 200 ((22 : Nat) : Int) = ((z + i : Nat) : Int) := a2
              refine x_gI rfl ?_
              rw [g22]
              refine x_ob rfl (x_cI (sp_X11_here P3 (by omega) ?_))
              dsimp only
              rw [i32_long (by omega) (by omega), show (48 : Int64) = i64 48 from rfl, show (57 : Int64) = i64 57 from rfl]
              refine x_cI (sp_X11_isIn (by omega) (by omega) (by omega) ?_)
              rw [if_pos dd]
              refine x_eq (by omega) (by omega) (fun h => by omega) (fun _ => x_gI rfl (x_gI rfl ?_))
              rw [g22, show I3 200 ((23 : Nat) : Int) = (z : Int) from a3, i32_sub]
              refine x_le (by omega) (by omega) (fun h5 => x_gI rfl ?_) (fun h5 => x_gI rfl (x_gI rfl ?_))
              · rw [g22, i32_add]
                refine x_pI rfl (hJ _ _ ⟨_, rfl, rfl, f3.trans (Nx.up (by omega)), ?_, by rw [up_k (by omega)]; exact a3, ?_⟩)
                · rw [show ((22 : Nat) : Int) = 22 from rfl, up_self]; omega
                · rw [up_k (by omega), a6, show min i 5 = 5 by omega, show min (i + 1) 5 = 5 by omega]
              · rw [g22, show I3 200 ((26 : Nat) : Int) = vls l z (min i 5) from a6]
                refine x_ob rfl (x_cI (sp_X11_here P3 (by omega) ?_))
                dsimp only
                rw [i32_mul, i32_add, i32_sub]
                refine x_pI rfl (x_gI rfl ?_)
                rw [up_k (by omega), g22, i32_add]
                refine x_pI rfl (hJ _ _ ⟨_, rfl, rfl, (f3.trans (Nx.up (by omega))).trans (Nx.up (by omega)), ?_, by rw [up_k (by omega), up_k (by omega)]; exact a3, ?_⟩)
                · rw [show ((22 : Nat) : Int) = 22 from rfl, up_self]; omega
                · rw [up_k (by omega), show ((26 : Nat) : Int) = 26 from rfl, up_self, show min i 5 = i by omega, show min (i + 1) 5 = i + 1 by omega]
                  rfl
            · rintro av μ ⟨I3, rfl, rfl, f3, a2, a3, a6⟩
              dsimp only [bX11_next, bX11_next_2]
              ((try rw [show (0 : Int32) = i32 (0) from rfl]); (try rw [show (1 : Int32) = i32 (1) from rfl]); (try rw [show (2 : Int32) = i32 (2) from rfl]); (try rw [show (5 : Int32) = i32 (5) from rfl]); (try rw [show (10 : Int32) = i32 (10) from rfl]); (try rw [show (48 : Int32) = i32 (48) from rfl]); (try simp only [i32_add, i32_sub, i32_mul, i32_neg]))
              rw [show z + (y - z) = y by omega] at a2
              have P3 := f3.pt hP
              have g22 : I3 200 ((22 : Nat) : Int) = (y : Int) := a2
              have br2 := bt_rg hB y
              refine x_gI rfl ?_
              rw [g22]
              refine x_ob rfl (x_cI (sp_X11_here P3 (by omega) ?_))
              dsimp only
              rw [i32_long (by omega) (by omega), show (48 : Int64) = i64 48 from rfl, show (57 : Int64) = i64 57 from rfl]
              refine x_cI (sp_X11_isIn (by omega) (by omega) (by omega) ?_)
              rw [if_neg (fun q => by have := isDg_iff.mpr q; rw [M.2.2.2] at this; exact absurd this (by decide))]
              refine x_eq (by omega) (by omega) (fun _ => x_gI rfl (x_gI rfl ?_)) (fun h => absurd rfl h)
              rw [g22, show I3 200 ((23 : Nat) : Int) = (z : Int) from a3, i32_sub]
              refine x_le (by omega) (by omega) (fun h5 => x_pI rfl (x_rV ?_)) (fun h5 => x_pI rfl (x_rV ?_))
              · have hk : (if y - z ≤ 5 then 12 else 16) = 12 := by rw [if_pos (by omega)]
                rw [hk] at hQ
                refine hQ _ (f3.trans (Nx.up (by omega))) ⟨by rw [up_k (by omega)]; exact a2, by rw [up_k (by omega)]; exact a3, fun h => absurd h (by show ¬ 12 < 11; omega), fun h => absurd h (by show ¬ 12 = 11; omega), fun h => ⟨by rw [show ((24 : Nat) : Int) = 24 from rfl, up_self], by rw [up_k (by omega), a6, show min (y - z) 5 = y - z by omega]; rfl⟩, fun h => absurd h (by show ¬ 12 = 13; omega), fun h => absurd h (by show ¬ 12 = 14; omega), fun h => absurd h (by show ¬ 12 = 15; omega), fun h => absurd h (by show ¬ 12 = 16; omega)⟩
              · have hk : (if y - z ≤ 5 then 12 else 16) = 16 := by rw [if_neg (by omega)]
                rw [hk] at hQ
                refine hQ _ (f3.trans (Nx.up (by omega))) ⟨by rw [up_k (by omega)]; exact a2, by rw [up_k (by omega)]; exact a3, fun h => absurd h (by show ¬ 16 < 11; omega), fun h => absurd h (by show ¬ 16 = 11; omega), fun h => absurd h (by show ¬ 16 = 12; omega), fun h => absurd h (by show ¬ 16 = 13; omega), fun h => absurd h (by show ¬ 16 = 14; omega), fun h => absurd h (by show ¬ 16 = 15; omega), fun h => Or.inl (by rw [show ((24 : Nat) : Int) = 24 from rfl, up_self])⟩
          · -- one byte
            rw [if_neg c2, if_neg hE] at hQ
            rw [if_neg (fun q => c2 (isDg_iff.mpr q))]
            refine x_eq (by omega) (by omega) (fun _ => x_gI rfl ?_) (fun h => absurd rfl h)
            rw [g2, i32_add]
            refine x_pI rfl ?_
            have f3 := f2.trans (Nx.up (I := I2) (k := 22) (v := (z : Int) + 1) (by omega))
            have b2 : up I2 200 ((22 : Nat) : Int) ((z : Int) + 1) 200 22 = ((z + 1 : Nat) : Int) := by rw [show ((22 : Nat) : Int) = 22 from rfl, up_self]; omega
            have b3 : up I2 200 ((22 : Nat) : Int) ((z : Int) + 1) 200 23 = (z : Int) := by rw [up_k (by omega)]; exact g3
            generalize up I2 200 ((22 : Nat) : Int) ((z : Int) + 1) = I3 at *
            refine x_eq (by omega) (by omega) (fun c3 => x_pI rfl (x_rV ?_)) (fun c3 => x_eq (by omega) (by omega) (fun c4 => x_pI rfl (x_rV ?_)) (fun c4 => x_pI rfl (x_rV ?_)))
            · have hk : (if bt l z = 45 then 13 else if bt l z = 59 then 14 else 16) = 14 := by rw [if_neg (by omega), if_pos c3]
              rw [hk] at hQ
              exact hQ _ (f3.trans (Nx.up (by omega))) ⟨by rw [up_k (by omega)]; exact b2, by rw [up_k (by omega)]; exact b3, fun h => absurd h (by show ¬ 14 < 11; omega), fun h => absurd h (by show ¬ 14 = 11; omega), fun h => absurd h (by show ¬ 14 = 12; omega), fun h => absurd h (by show ¬ 14 = 13; omega), fun h => by rw [show ((24 : Nat) : Int) = 24 from rfl, up_self], fun h => absurd h (by show ¬ 14 = 15; omega), fun h => absurd h (by show ¬ 14 = 16; omega)⟩
            · have hk : (if bt l z = 45 then 13 else if bt l z = 59 then 14 else 16) = 13 := by rw [if_pos c4]
              rw [hk] at hQ
              exact hQ _ (f3.trans (Nx.up (by omega))) ⟨by rw [up_k (by omega)]; exact b2, by rw [up_k (by omega)]; exact b3, fun h => absurd h (by show ¬ 13 < 11; omega), fun h => absurd h (by show ¬ 13 = 11; omega), fun h => absurd h (by show ¬ 13 = 12; omega), fun h => by rw [show ((24 : Nat) : Int) = 24 from rfl, up_self], fun h => absurd h (by show ¬ 13 = 14; omega), fun h => absurd h (by show ¬ 13 = 15; omega), fun h => absurd h (by show ¬ 13 = 16; omega)⟩
            · have hk : (if bt l z = 45 then 13 else if bt l z = 59 then 14 else 16) = 16 := by rw [if_neg c4, if_neg c3]
              rw [hk] at hQ
              exact hQ _ (f3.trans (Nx.up (by omega))) ⟨by rw [up_k (by omega)]; exact b2, by rw [up_k (by omega)]; exact b3, fun h => absurd h (by show ¬ 16 < 11; omega), fun h => absurd h (by show ¬ 16 = 11; omega), fun h => absurd h (by show ¬ 16 = 12; omega), fun h => absurd h (by show ¬ 16 = 13; omega), fun h => absurd h (by show ¬ 16 = 14; omega), fun h => absurd h (by show ¬ 16 = 15; omega), fun h => Or.inl (by rw [show ((24 : Nat) : Int) = 24 from rfl, up_self])⟩
    | succ d ih =>
      intro I1 hd f1 e1
      dsimp only [bX11_next, bX11_next_0]
      ((try rw [show (0 : Int32) = i32 (0) from rfl]); (try rw [show (1 : Int32) = i32 (1) from rfl]); (try rw [show (-1 : Int32) = i32 (-1) from rfl]); (try rw [show (3 : Int32) = i32 (3) from rfl]); (try rw [show (4 : Int32) = i32 (4) from rfl]); (try rw [show (5 : Int32) = i32 (5) from rfl]); (try rw [show (10 : Int32) = i32 (10) from rfl]); (try rw [show (32 : Int32) = i32 (32) from rfl]); (try rw [show (45 : Int32) = i32 (45) from rfl]); (try rw [show (59 : Int32) = i32 (59) from rfl]); (try simp only [i32_add, i32_sub, i32_mul, i32_neg]))
      have P1 := f1.pt hP
      have br := bt_rg hB (z - (d + 1))
      have bl := isBl_iff.mp (L.2.2.1 (z - (d + 1)) (by omega) (by omega))
      have g : I1 200 ((22 : Nat) : Int) = ((z - (d + 1) : Nat) : Int) := e1
      have nxt1 : (gI 11 22 200 fun v3 => pI 11 22 200 (v3 + i32 1) <| fx bX11_next 0 [.ref 200]) (ME e I1 J) Q := by
        refine x_gI rfl ?_
        rw [g, i32_add]
        refine x_pI rfl (fx_in (ih _ (by omega) (f1.trans (Nx.up (by omega))) ?_))
        rw [show ((22 : Nat) : Int) = 22 from rfl, up_self]; omega
      refine x_gI rfl ?_
      rw [g]
      refine x_ob rfl (x_cI (sp_X11_here P1 (by omega) (x_eq (by omega) (by omega) (fun h => nxt1) (fun h => x_gI rfl ?_))))
      rw [g]
      exact x_ob rfl (x_cI (sp_X11_here P1 (by omega) (x_eq (by omega) (by omega) (fun h => nxt1) (fun h => by omega))))
  exact key (z - p) I (Nat.le_refl _) (Nx.refl I) (by rw [h22]; omega)
end Rp61b
