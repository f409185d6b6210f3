/-! ===== the class is asked ===== -/
def adj (V : Vw) (a o : Int) : Bool := decide (a ≠ o) && isE V (pq a o)
def mkA (V : Vw) (H : Hw) (a : Int) : Nat → Int
  | 0 => vK V 0 a
  | 1 => hb H a
  | 2 => (deg V a 144 : Nat)
  | 3 => (ct (isAt V a 0) (vn V) : Nat)
  | _ => fP (forest V) a
def skA (V : Vw) (s : Int) : Nat → Int
  | 0 => vG V 0 s
  | 1 => vG V 1 s
  | 2 => vG V 2 s
  | 3 => vG V 3 s
  | 4 => vG V 4 s
  | 5 => vG V 5 s
  | 6 => swg (sdst V s) (vS V 0)
  | 7 => bnd V s
  | 8 => wrm V s
  | _ => rs V s
noncomputable def egA (V : Vw) (k : Int) : Nat → Int
  | 0 => cnt V k
  | 1 => dk V k
  | 2 => wgt V k
  | 3 => if fT (forest V) k = true then 1 else 0
  | 4 => (lwc V k 144 : Nat)
  | 5 => (low V (vS V 3) k 144 : Nat)
  | _ => (spr V k (vn V)).2.2 - (spr V k (vn V)).2.1
noncomputable def coA (V : Vw) (H : Hw) (n : Nat) : Nat → Int
  | 0 => vm V
  | 1 => (ctH (hb H) (vm V) : Nat)
  | 2 => vn V
  | 3 => (ctH (vG V 5) (vn V) : Nat)
  | 4 => nE V
  | 5 => (ct (fT (forest V)) 144 : Nat)
  | 6 => nL V
  | 7 => (ncl V (vS V 3) 144 : Nat)
  | 8 => (ctH (hh H) (vm V) : Nat)
  | 9 => n
  | 10 => (vm V : Int) - (ct (fT (forest V)) 144 : Nat)
  | _ => -1
noncomputable def an_count (V : Vw) (H : Hw) (n : Nat) (w : Int) : Int := if 0 ≤ w ∧ w < 11 then coA V H n w.toNat else -1
def an_set (V : Vw) (w : Int) : Int := if 0 ≤ w ∧ w < 5 then vS V w else -1
def an_est (V : Vw) (a b : Int) : An := if areM V a b = 1 then .inl (if a = b then -10000000 else est V (vS V 0) (pq a b)) else .inr 1
def an_mark (V : Vw) (H : Hw) (a w : Int) : An := if 0 ≤ a ∧ a < vm V then (if 0 ≤ w ∧ w < 5 then .inl (mkA V H a w.toNat) else .inr 2) else .inr 1
def an_hgt (V : Vw) (H : Hw) (a : Int) : An := if 0 ≤ a ∧ a < vm V then .inl (hgt H a) else .inr 1
def an_sight (V : Vw) (s w : Int) : An := if 0 ≤ s ∧ s < vn V then (if 0 ≤ w ∧ w < 10 then .inl (skA V s w.toNat) else .inr 2) else .inr 1
def an_rise (V : Vw) (a b : Int) : An := if areM V a b = 1 then .inl (if adj V a b = true then rf V a b else -10000000) else .inr 1
noncomputable def an_edge (V : Vw) (a b w : Int) : An := if areM V a b = 1 then (if 0 ≤ w ∧ w < 7 then .inl (if adj V a b = true then egA V (pq a b) w.toNat else -1) else .inr 2) else .inr 1
def an_along (V : Vw) (a b : Int) : An := if areM V a b = 1 then .inl (if fP (forest V) a = fP (forest V) b then fC (forest V) a b else -10000000) else .inr 1
theorem areM_1 {V : Vw} {a b : Int} (h1 : 0 ≤ a) (h2 : a < vm V) (h3 : 0 ≤ b) (h4 : b < vm V) : areM V a b = 1 := by unfold areM; rw [if_pos ⟨h1, h2, h3, h4⟩]
theorem areM_0 {V : Vw} {a b : Int} (h : a < 0 ∨ vm V ≤ a ∨ b < 0 ∨ vm V ≤ b) : areM V a b = 0 := by unfold areM; rw [if_neg (by omega)]
theorem adj_iff {V : Vw} {a b : Int} : adj V a b = true ↔ a ≠ b ∧ isE V (pq a b) = true := by unfold adj; simp
section Law85
variable {e : Nat} {I J : IM} {Q : Post} {V : Vw} {H : Hw} {a b v s w : Int}
theorem Cn.cf {I' : IM} (h : Cn I V H) (f : Cf I I') : Cn I' V H := by
  obtain ⟨hG, hGH, hB, hR, hH, hW, hd⟩ := h
  exact ⟨hG, hGH, hB, hR.keep fun d hd => f.1 _ (by omega), hH.keep fun d hd => f.1 _ (by omega), hW.keep fun d hd => f.1 _ (by omega), f.2⟩
theorem Fr1.cf {I' : IM} (h : Fr1 I I') (h0 : dg0 I) : Cf I I' := ⟨fun q hq => h q (by omega), fun x hx => by rw [h 190 (by omega)]; exact h0 x hx⟩
theorem cq_levelError (h : Cn I V H) : Cq SX10_levelError [.ref 0] e I J (.inl (err V)) := by
  intro Q hQ
  obtain ⟨hG, hGH, hB, hR, hH, hW, hd⟩ := h
  refine x_in (Nat.le_of_ble_eq_true rfl) ?_
  dsimp only [bX10_levelError, bX10_levelError_0]
  refine x_gR rfl rfl (x_gR rfl rfl (x_ob rfl (x_cV (sp_X0_measure st8 hG hR hW fun I1 f1 M1 => x_gR rfl rfl (x_gI rfl ?_)))))
  rw [show I1 171 ((2 : Nat) : Int) = err V from M1.2.1]
  exact x_rI (hQ I1 8 (f1.cf hd) st8)
theorem cq_setting (h : Cn I V H) (he : e ∈ stLs) (hw : IR w) : Cq SX10_setting [.ref 0, .int (i32 w)] e I J (.inl (an_set V w)) := by
  intro Q hQ
  obtain ⟨hG, hGH, hB, hR, hH, hW, hd⟩ := h
  refine x_in (Nat.le_of_ble_eq_true rfl) ?_
  dsimp only [bX10_setting, bX10_setting_0]
  ((try rw [show (-1 : Int32) = i32 (-1) from rfl]); (try rw [show (0 : Int32) = i32 (0) from rfl]); (try rw [show (1 : Int32) = i32 (1) from rfl]); (try rw [show (4 : Int32) = i32 (4) from rfl]); (try simp only [i32_add, i32_sub, i32_mul, i32_neg]))
  have hq := hQ I e (Cf.refl hd) he
  unfold an_set at hq
  have g4 := hG.2.2.2.2.2.2.1
  refine x_eq hw (by omega) (fun h => ?_) (fun h => ?_)
  · refine x_gR rfl rfl (x_gIs st8 ?_)
    rw [show I 8 ((1 : Nat) : Int) = vS V 4 from R_told hR]
    rw [if_pos (by omega), h] at hq
    refine x_eq (by omega) (by omega) (fun g => ?_) (fun g => ?_)
    · rw [g] at hq; exact x_rI hq
    · rw [show vS V 4 = 1 by omega] at hq; exact x_rI hq
  · refine x_lt hw (by omega) (fun g => ?_) (fun g => x_le (by omega) hw (fun g2 => ?_) (fun g2 => ?_))
    · rw [if_neg (by omega)] at hq; exact x_rI hq
    · rw [if_neg (by omega)] at hq; exact x_rI hq
    · rw [if_pos (by omega)] at hq
      exact x_gR rfl rfl (x_obs st8 (x_cI (sp_X6_settingOf he st8 hR g (by omega) (x_rI hq))))
theorem cq_height (h : Cn I V H) (he : e ∈ stLs) (ha : IR a) : Cq SX10_height [.ref 0, .int (i32 a)] e I J (an_hgt V H a) := by
  intro Q hQ
  obtain ⟨hG, hGH, hB, hR, hH, hW, hd⟩ := h
  have m := hG.1
  refine x_in (Nat.le_of_ble_eq_true rfl) ?_
  dsimp only [bX10_height, bX10_height_0]
  have hq := hQ I e (Cf.refl hd) he
  unfold an_hgt at hq
  refine x_ob rfl (x_cV (sp_X10_needMark m hW ha (fun h1 h2 => ?_) (fun h1 => ?_)))
  · rw [if_pos ⟨h1, h2⟩] at hq
    exact x_gR rfl rfl (x_obs st8 (x_cI (sp_X6_heightOf he st8 hGH hH ⟨h1, by omega⟩ (x_rI hq))))
  · rw [if_neg (by omega)] at hq; exact hq
theorem sp_X0_estimateOf_no (hQ : Q (.inl (some (.int (i32 (-10000000))))) (ME e I J)) : SX0_estimateOf [.ref 171, .int (i32 (-1)), .int (i32 b)] (ME e I J) Q := by
  refine x_in (Nat.le_of_ble_eq_true rfl) ?_
  dsimp only [bX0_estimateOf, bX0_estimateOf_0]
  ((try rw [show (-1 : Int32) = i32 (-1) from rfl]); (try rw [show (-10000000 : Int32) = i32 (-10000000) from rfl]); (try simp only [i32_add, i32_sub, i32_mul, i32_neg]))
  exact x_brr (by trivial) (x_rI hQ)
theorem cq_estimate (h : Cn I V H) (he : e ∈ stLs) (ha : IR a) (hb : IR b) : Cq SX10_estimate [.ref 0, .int (i32 a), .int (i32 b)] e I J (an_est V a b) := by
  intro Q hQ
  obtain ⟨hG, hGH, hB, hR, hH, hW, hd⟩ := h
  have m := hG.1
  refine x_in (Nat.le_of_ble_eq_true rfl) ?_
  dsimp only [bX10_estimate, bX10_estimate_0]
  ((try rw [show (0 : Int32) = i32 (0) from rfl]); (try simp only [i32_add, i32_sub, i32_mul, i32_neg]))
  unfold an_est at hQ
  have hbad : areM V a b = 0 → Q (.inr 1) (ME e I J) := fun h => by
    have hq := hQ I e (Cf.refl hd) he
    rw [if_neg (by omega)] at hq; exact hq
  refine x_ob rfl (x_cV (sp_X10_needMark m hW ha (fun h1 h2 => ?_) (fun h1 => hbad (areM_0 (by omega)))))
  refine x_ob rfl (x_cV (sp_X10_needMark m hW hb (fun h3 h4 => ?_) (fun h1 => hbad (areM_0 (by omega)))))
  rw [if_pos (areM_1 h1 h2 h3 h4)] at hQ
  refine x_gR rfl rfl (x_gR rfl rfl (x_ob rfl (x_cV (sp_X0_measure st8 hG hR hW fun I1 f1 M1 => x_gR rfl rfl (x_gR rfl rfl (x_ob rfl ?_))))))
  have R1 := f1.st st8 hR
  refine x_cI (sp_X0_between (k := 0) (by omega) (by omega) (x_gR rfl rfl (x_obs st8 (x_cI (sp_X6_settingOf st8 st8 R1 (by omega) (by omega) ?_)))))
  have hq := hQ I1 8 (f1.cf hd) st8
  dsimp only
  by_cases hab : a = b
  · rw [if_pos hab] at hq ⊢
    exact x_ob rfl (x_cI (sp_X0_estimateOf_no (x_rI hq)))
  · rw [if_neg hab] at hq ⊢
    have pg := pq_rg (m := 12) (a := a) (b := b) (by omega) (by omega) (by omega) hab
    obtain ⟨k, hk⟩ : ∃ k : Nat, pq a b = k := ⟨(pq a b).toNat, by omega⟩
    rw [hk] at pg hq ⊢
    rw [M1.2.2.2.2 k (by omega)]
    by_cases hE : isE V k = true
    · rw [if_pos hE]
      exact x_ob rfl (x_cI (sp_X0_estimateOfM hG M1 (by omega) hE (by have := hG.2.2.1; omega) (x_rI hq)))
    · rw [if_neg hE]
      rw [est_no (by cases hx : isE V k; rfl; exact absurd hx hE)] at hq
      exact x_ob rfl (x_cI (sp_X0_estimateOf_no (x_rI hq)))
end Law85
