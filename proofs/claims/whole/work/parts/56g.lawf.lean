/-! ===== the class is asked: what would be ===== -/
theorem Good_st5 {V : Vw} (hG : Good V) {s v : Int} (hv : v = 0 ∨ v = 1) : Good (stG V 5 s v) := by
  obtain ⟨g0, g1, g2, g3, g4, g5, g6, g7, g8, g9, g10, g11⟩ := hG
  refine ⟨g0, g1, g2, g3, g4, g5, g6, g7, g8, g9, g10, fun s' a b => ?_⟩
  have g := g11 s' a b
  have e : ∀ f, vG (stG V 5 s v) f s' = if f = 5 ∧ s' = s then v else vG V f s' := fun _ => rfl
  rw [e 0, e 1, e 2, e 3, e 4, e 5, if_neg (by omega), if_neg (by omega), if_neg (by omega), if_neg (by omega), if_neg (by omega)]
  refine ⟨g.1, g.2.1, g.2.2.1, g.2.2.2.1, g.2.2.2.2.1, g.2.2.2.2.2.1, ?_⟩
  split
  · exact hv
  · exact g.2.2.2.2.2.2
theorem Rst_st5 {I : IM} {q : Nat} {V : Vw} {s v : Int} (hR : Rst I q V) : Rst (up I (q + 10) s v) q (stG V 5 s v) := by
  obtain ⟨r0, r1, r2, r3, _, _, _, s0, s1, s2, s3, s4, s5⟩ := hR
  have e : ∀ f s', vG (stG V 5 s v) f s' = if f = 5 ∧ s' = s then v else vG V f s' := fun _ _ => rfl
  refine ⟨fun i a b => by rw [up_q (by omega)]; exact r0 i a b, by rw [up_q (by omega)]; exact r1, fun h => by rw [up_q (by omega)]; exact r2 h, by rw [up_q (by omega)]; exact r3, trivial, trivial, trivial, fun i a b => ?_, fun i a b => ?_, fun i a b => ?_, fun i a b => ?_, fun i a b => ?_, fun i a b => ?_⟩
  · rw [up_q (by omega), e, if_neg (by omega)]; exact s0 i a b
  · rw [up_q (by omega), e, if_neg (by omega)]; exact s1 i a b
  · rw [up_q (by omega), e, if_neg (by omega)]; exact s2 i a b
  · rw [up_q (by omega), e, if_neg (by omega)]; exact s3 i a b
  · rw [up_q (by omega), e, if_neg (by omega)]; exact s4 i a b
  · rw [up_at, e]
    by_cases h : i = s
    · rw [if_pos h, if_pos ⟨rfl, h⟩]
    · rw [if_neg h, if_neg (fun q => h q.2)]; exact s5 i a b
noncomputable def opn (V : Vw) (s : Int) : Int := (nL (stG V 5 s 1) : Int) - (ncl (stG V 5 s 1) (vS V 3) 144 : Nat)
noncomputable def bsk (V : Vw) : Nat → Int × Int
  | 0 => (-1, 0)
  | s + 1 => if vG V 5 s = 0 ∧ ((bsk V s).1 = -1 ∨ opn V s < (bsk V s).2) then (s, opn V s) else bsk V s
noncomputable def an_clIf (V : Vw) (s : Int) : An := if 0 ≤ s ∧ s < vn V then .inl (ncl (stG V 5 s (1 - vG V 5 s)) (vS V 3) 144 : Nat) else .inr 1
def an_errW (V : Vw) (a : Int) : An := if 1 ≤ a ∧ a ≤ 9999 then .inl (ferr V a) else .inr 2
def an_misA (V : Vw) (H : Hw) (a : Int) : An := if 0 ≤ a ∧ a ≤ 50 then .inl (misf V (rbs V a.toNat (lvl V H)).2) else .inr 2
def an_hIf (V : Vw) (H : Hw) (a : Int) : An := if 0 ≤ a ∧ a < vm V then .inl (hgt (lvl V H) a) else .inr 1
/-- the least limit, not less, with which a loop closes -/
noncomputable def upl (V : Vw) (k : Int) : Nat → Int → Int
  | 0, l => l
  | n + 1, l => if l ≤ 999 ∧ ¬ clo V l k = true then upl V k n (l + 1) else l
noncomputable def lls (V : Vw) : Nat → Int
  | 0 => 0
  | k + 1 => if isL V k = true then upl V k 1001 (lls V k) else lls V k
theorem upl_rg (V : Vw) (k : Int) : ∀ (n : Nat) (l : Int), 0 ≤ l ∧ l ≤ 1000 → 0 ≤ upl V k n l ∧ upl V k n l ≤ 1000 := by
  intro n
  induction n with
  | zero => intro l h; exact h
  | succ n ih =>
    intro l h
    simp only [upl]
    split
    · rename_i c; exact ih (l + 1) (by omega)
    · exact h
theorem lls_rg (V : Vw) : ∀ K : Nat, 0 ≤ lls V K ∧ lls V K ≤ 1000 := by
  intro K
  induction K with
  | zero => exact ⟨Int.le_refl _, by show (0 : Int) ≤ 1000; omega⟩
  | succ K ih =>
    simp only [lls]
    split
    · exact upl_rg V K 1001 _ ih
    · exact ih
theorem lls_flat {V : Vw} {K K' : Nat} (h : K ≤ K') (hn : ∀ j : Nat, K ≤ j → j < K' → isL V j = false) : lls V K' = lls V K := by
  obtain ⟨d, rfl⟩ : ∃ d, K' = K + d := ⟨K' - K, by omega⟩
  induction d with
  | zero => rfl
  | succ d ih =>
    rw [show K + (d + 1) = (K + d) + 1 by omega]
    simp only [lls]
    rw [if_neg (fun q => by rw [hn (K + d) (by omega) (by omega)] at q; exact absurd q (by decide)), ih (by omega) (fun j h1 h2 => hn j h1 (by omega))]
noncomputable def an_ll (V : Vw) : Int := if lls V 144 ≤ 999 then lls V 144 else -1
theorem lvl_ok {V : Vw} {H : Hw} {M : Int} (hG : Good V) (hGH : GoodH (vm V) H) (hB : HB (vm V) H M) : GoodH (vm V) (lvl V H) ∧ HB (vm V) (lvl V H) (M + 620136) := by
  have h := lvo_ok hG hGH hB 12
  exact ⟨h.1, h.2.1.mono (by omega)⟩
def sws (V : Vw) (s : Int) : Int := if vG V 5 s = 0 then swg (sdst V s) (vS V 0) else 0
def swc (V : Vw) (s : Int) : Bool := decide (vG V 5 s = 0)
theorem swc_iff {V : Vw} {s : Int} : swc V s = true ↔ vG V 5 s = 0 := by unfold swc; simp
def msw (V : Vw) : UInt64 := if ct (swc V) (vn V) = 0 then FP.dconst0 else FP.ddiv (FP.i2d (i32 (sm (sws V) (vn V)))) (FP.i2d (i32 (ct (swc V) (vn V) : Nat)))
noncomputable def csh (V : Vw) : UInt32 := if nL V = 0 then FP.fconst1 else FP.fdiv (FP.i2f (i32 (ncl V (vS V 3) 144 : Nat))) (FP.i2f (i32 (nL V : Nat)))
def CqD (S : ST) (as : List Value) (e : Nat) (I J : IM) (r : UInt64) : Prop := ∀ Q : Post, (∀ (I' : IM) (e' : Nat), Cf I I' → e' ∈ stLs → Q (.inl (some (.double r))) (ME e' I' J)) → S as (ME e I J) Q
def CqF (S : ST) (as : List Value) (e : Nat) (I J : IM) (r : UInt32) : Prop := ∀ Q : Post, (∀ (I' : IM) (e' : Nat), Cf I I' → e' ∈ stLs → Q (.inl (some (.float r))) (ME e' I' J)) → S as (ME e I J) Q
def RqD (S : ST) (as : List Value) (e : Nat) (I J : IM) (r : UInt64) : Prop := ∀ Q : Post, (∀ I' : IM, Rfr I I' → Q (.inl (some (.double r))) (ME e I' J)) → S as (ME e I J) Q
def RqF (S : ST) (as : List Value) (e : Nat) (I J : IM) (r : UInt32) : Prop := ∀ Q : Post, (∀ I' : IM, Rfr I I' → Q (.inl (some (.float r))) (ME e I' J)) → S as (ME e I J) Q
theorem ncl_nL (V : Vw) (lim : Int) : ncl V lim 144 ≤ nL V := by
  have : ∀ n : Nat, ncl V lim n ≤ lk V n := by
    intro n
    induction n with
    | zero => exact Nat.le_refl _
    | succ n ih =>
      rw [lk_succ]
      show ncl V lim n + (if (isL V n && clo V lim n) = true then 1 else 0) ≤ _
      cases isL V n <;> simp <;> (try split) <;> omega
  exact this 144
section Law89
variable {e : Nat} {I J : IM} {Q : Post} {V : Vw} {H : Hw} {a b v s w l : Int}
theorem hz8 (hG : Good V) (hR : Rst I 8 V) : I 8 1 = 0 ∨ I 8 1 = 1 := by rw [R_told hR]; exact hG.2.2.2.2.2.2.1
theorem sp_X10_tryStrike (hG : Good V) (hR : Rst I 8 V) (h0 : 0 ≤ s) (h1 : s < vn V) (hd : dg0 I)
    (hQ : ∀ I' : IM, Cf I I' → Rst I' 19 (stG V 5 s v) → Q (.inl none) (ME e I' J)) : SX10_tryStrike [.ref 0, .int (i32 s), .int (i32 v)] (ME e I J) Q := by
  refine x_in (Nat.le_of_ble_eq_true rfl) ?_
  dsimp only [bX10_tryStrike, bX10_tryStrike_0]
  have n := hG.2.1
  refine x_gR rfl rfl (x_gR rfl rfl (x_obs st19 (x_cV (sp_X6_copyFrom st19 st8 (by omega) (hz8 hG hR) fun I1 f1 c1 => ?_))))
  have R1 : Rst I1 19 V := c1.Rst hR n
  refine x_gR rfl rfl (x_gRs st19 rfl (x_cV (sp_X10_put (n := 40) rfl h0 (by omega) (by omega) (by omega) ?_)))
  refine x_rV (hQ _ ⟨fun q hq => by rw [up_qf (by omega)]; exact f1 q (by omega), fun x hx => by rw [up_q (by omega), f1 190 (by omega)]; exact hd x hx⟩ (Rst_st5 R1))
theorem cq_closedIf (h : Cn I V H) (he : e ∈ stLs) (hs : IR s) : Cq SX10_closedIf [.ref 0, .int (i32 s)] e I J (an_clIf V s) := by
  intro Q hQ
  obtain ⟨hG, hGH, hB, hR, hH, hW, hd⟩ := h
  have n := hG.2.1
  refine x_in (Nat.le_of_ble_eq_true rfl) ?_
  dsimp only [bX10_closedIf, bX10_closedIf_0]
  ((try rw [show (1 : Int32) = i32 (1) from rfl]); (try simp only [i32_add, i32_sub, i32_mul, i32_neg]))
  unfold an_clIf at hQ
  refine x_ob rfl (x_cV (sp_X10_needSight n hR hs (fun h1 h2 => ?_) (fun h1 => ?_)))
  rotate_left
  · have hq := hQ I e (Cf.refl hd) he
    rw [if_neg (by omega)] at hq; exact hq
  rw [if_pos ⟨h1, h2⟩] at hQ
  refine x_gR rfl rfl (x_gRs st8 rfl (x_cI (sp_X10_cell (n := 40) rfl h1 (by omega) (by omega) (by omega) ?_)))
  dsimp only
  rw [R_s5 hR h1 h2, i32_sub]
  refine x_ob rfl (x_cV (sp_X10_tryStrike hG hR h1 h2 hd fun I1 f1 R1 => ?_))
  have g := (gd_s hG h1 h2).2.2.2.2.2.2
  have hG' : Good (stG V 5 s (1 - vG V 5 s)) := Good_st5 hG (by omega)
  have W1 : Rwl I1 5 V := hW.keep fun d hd => f1.1 _ (by omega)
  refine x_gR rfl rfl (x_ob rfl (x_cV (sp_X10_survey st19 hG' R1 W1 f1.2 fun I2 f2 M2 G2 L2 => ?_)))
  refine x_gR rfl rfl (x_gI rfl ?_)
  rw [show I2 191 ((3 : Nat) : Int) = ((ncl (stG V 5 s (1 - vG V 5 s)) (vS V 3) 144 : Nat) : Int) from L2.2.1]
  exact x_rI (hQ I2 19 (f1.trans f2.cf) st19)
theorem bsk_bd (hG : Good V) : ∀ K : Nat, K ≤ vn V → -1 ≤ (bsk V K).1 ∧ (bsk V K).1 < K ∧ -40 ≤ (bsk V K).2 ∧ (bsk V K).2 ≤ 40 := by
  intro K
  induction K with
  | zero => intro _; simp [bsk]
  | succ K ih =>
    intro hK
    have := ih (by omega)
    simp only [bsk]
    split
    · have a := nL40 (V := stG V 5 K 1) (Good_st5 hG (Or.inr rfl))
      have b := ncl_nL (stG V 5 K 1) (vS V 3)
      dsimp only
      unfold opn
      omega
    · omega
theorem cq_bestStrike (h : Cn I V H) (he : e ∈ stLs) : Cq SX10_bestStrike [.ref 0] e I J (.inl (bsk V (vn V)).1) := by
  intro Q hQ
  obtain ⟨hG, hGH, hB, hR, hH, hW, hd⟩ := h
  have n := hG.2.1
  refine x_in (Nat.le_of_ble_eq_true rfl) ?_
  dsimp only [bX10_bestStrike, bX10_bestStrike_0]
  ((try rw [show (0 : Int32) = i32 (0) from rfl]); (try rw [show (-1 : Int32) = i32 (-1) from rfl]); (try simp only [i32_add, i32_sub, i32_mul, i32_neg]))
  refine x_for (vn V) (fun i av μ => ∃ (I' : IM) (e' : Nat), av = [.ref 0, .int (i32 (bsk V i).1), .int (i32 (bsk V i).2), .int (i32 i)] ∧ μ = ME e' I' J ∧ Cf I I' ∧ e' ∈ stLs) ?_ ?_ (Nat.zero_le _) ⟨I, e, rfl, rfl, Cf.refl hd, he⟩
  · rintro k av μ hk ⟨I', e', rfl, rfl, f, he'⟩ hJ
    dsimp only [bX10_bestStrike, bX10_bestStrike_1]
    ((try rw [show (0 : Int32) = i32 (0) from rfl]); (try rw [show (1 : Int32) = i32 (1) from rfl]); (try rw [show (-1 : Int32) = i32 (-1) from rfl]); (try simp only [i32_add, i32_sub, i32_mul, i32_neg]))
    have hR' : Rst I' 8 V := hR.keep fun d hd => f.1 _ (by omega)
    have W' : Rwl I' 5 V := hW.keep fun d hd => f.1 _ (by omega)
    have bb := bsk_bd hG k (by omega)
    have hs : bsk V (k + 1) = if vG V 5 k = 0 ∧ ((bsk V k).1 = -1 ∨ opn V k < (bsk V k).2) then ((k : Int), opn V k) else bsk V k := rfl
    refine x_gR rfl rfl (x_gIs st8 ?_)
    rw [show I' 8 ((6 : Nat) : Int) = ((vn V : Nat) : Int) from R_n hR']
    refine x_le (by omega) (by omega) (fun h => by omega) (fun _ => ?_)
    refine x_gR rfl rfl (x_obs st8 (x_cI (sp_X6_counts he' st8 hG hR' (by omega) (by omega) ?_)))
    by_cases h5 : vG V 5 k = 0
    · rw [if_pos h5]
      refine x_eq (by omega) (by omega) (fun h => by omega) (fun _ => ?_)
      refine x_ob rfl (x_cV (sp_X10_tryStrike hG hR' (by omega) (by omega) f.2 fun I1 f1 R1 => ?_))
      have hG' : Good (stG V 5 k 1) := Good_st5 hG (Or.inr rfl)
      have W1 : Rwl I1 5 V := W'.keep fun d hd => f1.1 _ (by omega)
      refine x_gR rfl rfl (x_ob rfl (x_cV (sp_X10_survey st19 hG' R1 W1 f1.2 fun I2 f2 M2 G2 L2 => ?_)))
      refine x_gR rfl rfl (x_gI rfl ?_)
      rw [show I2 191 ((2 : Nat) : Int) = ((nL (stG V 5 k 1) : Nat) : Int) from L2.1]
      refine x_gR rfl rfl (x_gI rfl ?_)
      rw [show I2 191 ((3 : Nat) : Int) = ((ncl (stG V 5 k 1) (vS V 3) 144 : Nat) : Int) from L2.2.1, i32_sub, show (nL (stG V 5 k 1) : Int) - (ncl (stG V 5 k 1) (vS V 3) 144 : Nat) = opn V k from rfl]
      refine x_lI ?_
      have n1 := nL40 hG'
      have n2 := ncl_nL (stG V 5 k 1) (vS V 3)
      have ob : -40 ≤ opn V k ∧ opn V k ≤ 40 := by unfold opn; omega
      have ff := (f.trans f1).trans f2.cf
      refine x_eq (by omega) (by omega) (fun h => ?_) (fun h => x_le (by omega) (by omega) (fun g => ?_) (fun g => ?_))
      · rw [if_pos ⟨h5, Or.inl h⟩] at hs
        exact hJ _ _ ⟨I2, 19, by rw [hs]; simp only [Int.cast_ofNat_Int, Int.natCast_add, Int.toNat_natCast, i32_add, i32_sub, i32_mul, i32_neg, i32_lit, i64_add, i64_sub, i64_mul, i64_neg, i64_lit, i64_int], rfl, ff, st19⟩
      · rw [if_neg (fun q => q.2.elim h (fun z => by omega))] at hs
        exact hJ _ _ ⟨I2, 19, by rw [hs]; simp only [Int.cast_ofNat_Int, Int.natCast_add, Int.toNat_natCast, i32_add, i32_sub, i32_mul, i32_neg, i32_lit, i64_add, i64_sub, i64_mul, i64_neg, i64_lit, i64_int], rfl, ff, st19⟩
      · rw [if_pos ⟨h5, Or.inr g⟩] at hs
        exact hJ _ _ ⟨I2, 19, by rw [hs]; simp only [Int.cast_ofNat_Int, Int.natCast_add, Int.toNat_natCast, i32_add, i32_sub, i32_mul, i32_neg, i32_lit, i64_add, i64_sub, i64_mul, i64_neg, i64_lit, i64_int], rfl, ff, st19⟩
    · rw [if_neg h5]
      rw [if_neg (fun q => h5 q.1)] at hs
      exact x_brr (by trivial) (hJ _ _ ⟨I', e', by rw [hs]; simp only [Int.cast_ofNat_Int, Int.natCast_add, Int.toNat_natCast, i32_add, i32_sub, i32_mul, i32_neg, i32_lit, i64_add, i64_sub, i64_mul, i64_neg, i64_lit, i64_int], rfl, f, he'⟩)
  · rintro av μ ⟨I', e', rfl, rfl, f, he'⟩
    dsimp only [bX10_bestStrike, bX10_bestStrike_1]
    have hR' : Rst I' 8 V := hR.keep fun d hd => f.1 _ (by omega)
    refine x_gR rfl rfl (x_gIs st8 ?_)
    rw [show I' 8 ((6 : Nat) : Int) = ((vn V : Nat) : Int) from R_n hR']
    exact x_le (by omega) (by omega) (fun _ => x_rI (hQ I' e' f he')) (fun h => by omega)
theorem cq_errorWith (h : Cn I V H) (he : e ∈ stLs) (ha : IR a) : Cq SX10_errorWith [.ref 0, .int (i32 a)] e I J (an_errW V a) := by
  intro Q hQ
  obtain ⟨hG, hGH, hB, hR, hH, hW, hd⟩ := h
  refine x_in (Nat.le_of_ble_eq_true rfl) ?_
  dsimp only [bX10_errorWith, bX10_errorWith_0]
  ((try rw [show (0 : Int32) = i32 (0) from rfl]); (try simp only [i32_add, i32_sub, i32_mul, i32_neg]))
  unfold an_errW at hQ
  have l0 : seL 0 = 1 := rfl
  have u0 : seU 0 = 9999 := rfl
  refine x_cV (sp_X10_needSettingRange (w := 0) (by omega) ha (fun h1 h2 => ?_) (fun h1 => ?_))
  rotate_left
  · have hq := hQ I e (Cf.refl hd) he
    rw [if_neg (by omega)] at hq; exact hq
  rw [if_pos (by omega)] at hQ
  refine x_gR rfl rfl (x_gR rfl rfl (x_ob rfl (x_cV (sp_X0_measure st8 hG hR hW fun I1 f1 M1 => ?_))))
  refine x_gR rfl rfl (x_ob rfl (x_cI (sp_X0_foundErrorM hG M1 (by omega) fun I2 f2 => ?_)))
  exact x_rI (hQ I2 8 ⟨fun q hq => by rw [f2 q (by omega), f1 q (by omega)], fun x hx => by rw [f2 190 (by omega), f1 190 (by omega)]; exact hd x hx⟩ st8)
theorem cq_misfitAfter (h : Cn I V H) (he : e ∈ stLs) (ha : IR a) : CqJ SX10_misfitAfter [.ref 0, .int (i32 a)] e I J (an_misA V H a) := by
  intro Q hQ
  obtain ⟨hG, hGH, hB, hR, hH, hW, hd⟩ := h
  refine x_in (Nat.le_of_ble_eq_true rfl) ?_
  dsimp only [bX10_misfitAfter, bX10_misfitAfter_0]
  ((try rw [show (0 : Int32) = i32 (0) from rfl]); (try rw [show (50 : Int32) = i32 (50) from rfl]); (try simp only [i32_add, i32_sub, i32_mul, i32_neg]))
  unfold an_misA at hQ
  refine x_cV (sp_X10_needRange ha (by omega) (by omega) (fun h1 h2 => ?_) (fun h1 => ?_))
  rotate_left
  · have hq := hQ I e (Cf.refl hd) he
    rw [if_neg (by omega)] at hq; exact hq
  rw [if_pos ⟨h1, h2⟩] at hQ
  obtain ⟨n, rfl⟩ : ∃ n : Nat, a = n := ⟨a.toNat, by omega⟩
  refine x_gR rfl rfl (x_gR rfl rfl (x_obs st19 (x_cV (sp_X6_copyFrom st19 st8 (by omega) (hz8 hG hR) fun I1 f1 c1 => ?_))))
  have R1 : Rst I1 19 V := c1.Rst hR hG.2.1
  have H1 : Rht I1 19 H := c1.Rht hH
  have W1 : Rwl I1 5 V := hW.keep fun d hd => f1 _ (by omega)
  refine x_gR rfl rfl (x_gR rfl rfl (x_ob rfl (x_cV (sp_X0_measure st19 hG R1 W1 fun I2 f2 M2 => ?_))))
  have H2 : Rht I2 19 H := H1.keep fun d hd => f2 _ (by omega)
  have W2 := f2.wl W1
  refine x_gR rfl rfl (x_gR rfl rfl (x_ob rfl (x_cV (sp_X2_levelOut st19 st19 hG M2 W2 hGH H2 (hB.mono (by omega)) fun I3 f3 H3 => ?_))))
  have M3 : Md I3 V := M2.keep fun p a b => f3 p (by omega) (by omega) (by omega)
  have W3 : Rwl I3 5 V := W2.keep fun d hd => f3 _ (by omega) (by omega) (by omega)
  have lo := lvl_ok hG hGH hB
  refine x_gR rfl rfl (x_gR rfl rfl (x_ob rfl (x_cI (sp_X2_relaxBy st19 st19 hG M3 W3 lo.1 H3 (lo.2.mono (by omega)) (n := n) (by omega) fun I4 f4 H4 => ?_))))
  have M4 : Md I4 V := M3.keep fun p a b => f4 p (by omega) (by omega)
  have ro := rbs_drift hG lo.1 lo.2 (n := n) (by omega)
  have rg := (rbs_ok (M := 0) hG n lo.1 lo.2).1
  refine x_gR rfl rfl (x_gR rfl rfl (x_ob rfl (x_cJ (sp_X2_misfitOf st19 st19 hG M4 rg H4 (ro.mono (by omega)) ?_))))
  have fr : ∀ q, q < 19 ∨ (30 ≤ q ∧ q < 171) ∨ (184 < q ∧ q ≠ 199) → I4 q = I q := fun q hq => by
    rw [f4 q (by omega) (by omega), f3 q (by omega) (by omega) (by omega), f2 q (by omega), f1 q (by omega)]
  exact x_rJ (hQ I4 19 ⟨fun q hq => fr q (by omega), fun x hx => by rw [fr 190 (by omega)]; exact hd x hx⟩ st19)
theorem cq_heightIf (h : Cn I V H) (he : e ∈ stLs) (ha : IR a) : Cq SX10_heightIf [.ref 0, .int (i32 a)] e I J (an_hIf V H a) := by
  intro Q hQ
  obtain ⟨hG, hGH, hB, hR, hH, hW, hd⟩ := h
  refine x_in (Nat.le_of_ble_eq_true rfl) ?_
  dsimp only [bX10_heightIf, bX10_heightIf_0]
  unfold an_hIf at hQ
  refine x_ob rfl (x_cV (sp_X10_needMark hG.1 hW ha (fun h1 h2 => ?_) (fun h1 => ?_)))
  rotate_left
  · have hq := hQ I e (Cf.refl hd) he
    rw [if_neg (by omega)] at hq; exact hq
  rw [if_pos ⟨h1, h2⟩] at hQ
  have m := hG.1
  refine x_gR rfl rfl (x_gR rfl rfl (x_obs st19 (x_cV (sp_X6_copyFrom st19 st8 (by omega) (hz8 hG hR) fun I1 f1 c1 => ?_))))
  have R1 : Rst I1 19 V := c1.Rst hR hG.2.1
  have H1 : Rht I1 19 H := c1.Rht hH
  have W1 : Rwl I1 5 V := hW.keep fun d hd => f1 _ (by omega)
  refine x_gR rfl rfl (x_gR rfl rfl (x_ob rfl (x_cV (sp_X0_measure st19 hG R1 W1 fun I2 f2 M2 => ?_))))
  have H2 : Rht I2 19 H := H1.keep fun d hd => f2 _ (by omega)
  have W2 := f2.wl W1
  refine x_gR rfl rfl (x_gR rfl rfl (x_ob rfl (x_cV (sp_X2_levelOut st19 st19 hG M2 W2 hGH H2 (hB.mono (by omega)) fun I3 f3 H3 => ?_))))
  have lo := lvl_ok hG hGH hB
  have fr : ∀ q, q < 19 ∨ (30 ≤ q ∧ q < 171) ∨ (184 < q ∧ q ≠ 199) → I3 q = I q := fun q hq => by
    rw [f3 q (by omega) (by omega) (by omega), f2 q (by omega), f1 q (by omega)]
  exact x_gR rfl rfl (x_obs st19 (x_cI (sp_X6_heightOf st19 st19 lo.1 H3 ⟨h1, by omega⟩ (x_rI (hQ I3 19 ⟨fun q hq => fr q (by omega), fun x hx => by rw [fr 190 (by omega)]; exact hd x hx⟩ st19)))))
theorem cq_leastLimit (h : Cn I V H) : Cq SX10_leastLimit [.ref 0] e I J (.inl (an_ll V)) := by
  intro Q hQ
  obtain ⟨hG, hGH, hB, hR, hH, hW, hd⟩ := h
  refine x_in (Nat.le_of_ble_eq_true rfl) ?_
  dsimp only [bX10_leastLimit, bX10_leastLimit_0]
  ((try rw [show (0 : Int32) = i32 (0) from rfl]); (try simp only [i32_add, i32_sub, i32_mul, i32_neg]))
  have h40 := nL40 hG
  refine x_gR rfl rfl (x_ob rfl (x_cV (sp_X10_survey st8 hG hR hW hd fun I1 f1 M1 G1 L1 => ?_)))
  have hq := hQ I1 8 f1.cf st8
  dsimp only
  refine x_for (nL V) (fun i av μ => ∃ K : Nat, K ≤ 144 ∧ lk V K = i ∧ av = [.ref 0, .int (i32 (lls V K)), .int (i32 i)] ∧ μ = ME 8 I1 J) ?_ ?_ (Nat.zero_le _) ⟨0, by omega, rfl, rfl, rfl⟩
  · rintro i av μ hi ⟨K, hK, hKi, rfl, rfl⟩ hJ
    dsimp only [bX10_leastLimit, bX10_leastLimit_1]
    obtain ⟨k, hKk, hk, hL, hki, gap, hk1⟩ := lk_at hG hi hKi
    have hE := (isL_E hL).1
    have t := L1.2.2.1 k hk hL
    have k4 := lk_40 hG hk hL
    have lw := lW_bd hG hE
    have key : ∀ (n : Nat) (l : Int), 0 ≤ l → l ≤ 1000 → 1000 - l < n → fx bX10_leastLimit 1 [.ref 0, .int (i32 (upl V k n l)), .int (i32 ((i : Int) + 1))] (ME 8 I1 J) Q → fx bX10_leastLimit 2 [.ref 0, .int (i32 l), .int (i32 i)] (ME 8 I1 J) Q := by
      intro n
      induction n with
      | zero => intro l a b c; omega
      | succ n ih =>
        intro l a b c hf
        refine fx_in ?_
        dsimp only [bX10_leastLimit, bX10_leastLimit_2]
        ((try rw [show (0 : Int32) = i32 (0) from rfl]); (try rw [show (1 : Int32) = i32 (1) from rfl]); (try rw [show (999 : Int32) = i32 (999) from rfl]); (try simp only [i32_add, i32_sub, i32_mul, i32_neg]))
        simp only [upl] at hf
        refine x_lt (by omega) (by omega) (fun h => ?_) (fun h => ?_)
        · rw [if_neg (by omega)] at hf; exact hf
        · refine x_gR rfl rfl (x_ob rfl (x_cI ?_))
          rw [← hki]
          refine sp_X4_closes k4 t.2.2.1 t.2.1 (lC_bd hG hE) (by omega) (by omega) ?_
          rw [← hki] at hf
          have hc : clo V l k = true ↔ 1000 * (lC V k * lC V k) ≤ lW V k * l * l := by unfold clo; simp
          by_cases hcl : 1000 * (lC V k * lC V k) ≤ lW V k * l * l
          · rw [if_pos hcl]
            rw [if_neg (fun q => q.2 (hc.mpr hcl))] at hf
            exact x_eq (by omega) (by omega) (fun h => by omega) (fun _ => hf)
          · rw [if_neg hcl]
            rw [if_pos ⟨by omega, fun q => hcl (hc.mp q)⟩] at hf
            rw [hki] at hf ⊢
            exact x_brr (by trivial) (ih (l + 1) (by omega) (by omega) (by omega) hf)
    refine x_gR rfl rfl (x_gI rfl ?_)
    rw [show I1 191 ((2 : Nat) : Int) = ((nL V : Nat) : Int) from L1.1]
    refine x_le (by omega) (by omega) (fun h => by omega) (fun _ => ?_)
    have lr := lls_rg V K
    refine key 1001 (lls V K) lr.1 lr.2 (by omega) ?_
    refine hJ _ _ ⟨k + 1, by omega, hk1, ?_, rfl⟩
    have : lls V (k + 1) = upl V k 1001 (lls V K) := by
      simp only [lls]
      rw [if_pos hL, lls_flat hKk gap]
    rw [this]
    simp only [Int.cast_ofNat_Int, Int.natCast_add, Int.toNat_natCast, i32_add, i32_sub, i32_mul, i32_neg, i32_lit, i64_add, i64_sub, i64_mul, i64_neg, i64_lit, i64_int]
  · rintro av μ ⟨K, hK, hKi, rfl, rfl⟩
    dsimp only [bX10_leastLimit, bX10_leastLimit_1]
    ((try rw [show (-1 : Int32) = i32 (-1) from rfl]); (try rw [show (999 : Int32) = i32 (999) from rfl]); (try simp only [i32_add, i32_sub, i32_mul, i32_neg]))
    have lr := lls_rg V K
    unfold an_ll at hq
    rw [lls_flat hK (lk_gap hKi.symm)] at hq
    refine x_gR rfl rfl (x_gI rfl ?_)
    rw [show I1 191 ((2 : Nat) : Int) = ((nL V : Nat) : Int) from L1.1]
    refine x_le (by omega) (by omega) (fun _ => ?_) (fun h => by omega)
    refine x_lt (by omega) (by omega) (fun h => ?_) (fun h => ?_)
    · rw [if_neg (by omega)] at hq; exact x_rI hq
    · rw [if_pos h] at hq; exact x_rI hq
theorem sws_bd (hG : Good V) {i : Int} (h0 : 0 ≤ i) (h1 : i < vn V) : 0 ≤ sws V i ∧ sws V i ≤ 110000 := by
  have d := gd_sdst hG h0 h1
  have g := swg_rg (d := sdst V i) (L := vS V 0) (by omega) (by have := hG.2.2.1; omega)
  unfold sws
  split <;> omega
theorem cq_meanSwings (h : Cn I V H) : CqD SX10_meanSwings [.ref 0] e I J (msw V) := by
  intro Q hQ
  obtain ⟨hG, hGH, hB, hR, hH, hW, hd⟩ := h
  have n := hG.2.1
  refine x_in (Nat.le_of_ble_eq_true rfl) ?_
  dsimp only [bX10_meanSwings, bX10_meanSwings_0]
  ((try rw [show (0 : Int32) = i32 (0) from rfl]); (try simp only [i32_add, i32_sub, i32_mul, i32_neg]))
  refine x_gR rfl rfl (x_gR rfl rfl (x_ob rfl (x_cV (sp_X0_measure st8 hG hR hW fun I1 f1 M1 => ?_))))
  have hq := hQ I1 8 (f1.cf hd) st8
  have R1 := f1.st st8 hR
  dsimp only
  refine x_for (vn V) (fun i av μ => av = [.ref 0, .int (i32 (sm (sws V) i)), .int (i32 (ct (swc V) i : Nat)), .int (i32 i)] ∧ μ = ME 8 I1 J) ?_ ?_ (Nat.zero_le _) ⟨rfl, rfl⟩
  · rintro i av μ hi ⟨rfl, rfl⟩ hJ
    dsimp only [bX10_meanSwings, bX10_meanSwings_1]
    ((try rw [show (0 : Int32) = i32 (0) from rfl]); (try rw [show (1 : Int32) = i32 (1) from rfl]); (try simp only [i32_add, i32_sub, i32_mul, i32_neg]))
    have s1 : sm (sws V) (i + 1) = sm (sws V) i + sws V i := rfl
    have s2 : ct (swc V) (i + 1) = ct (swc V) i + (if swc V i = true then 1 else 0) := rfl
    refine x_gR rfl rfl (x_gIs st8 ?_)
    rw [show I1 8 ((6 : Nat) : Int) = ((vn V : Nat) : Int) from R_n R1]
    refine x_le (by omega) (by omega) (fun h => by omega) (fun _ => ?_)
    refine x_gR rfl rfl (x_obs st8 (x_cI (sp_X6_counts st8 st8 hG R1 (by omega) (by omega) ?_)))
    by_cases h5 : vG V 5 i = 0
    · rw [if_pos h5]
      refine x_eq (by omega) (by omega) (fun h => by omega) (fun _ => ?_)
      refine x_gR rfl rfl (x_ob rfl (x_cI (sp_X0_swingsOf st8 hG R1 (by omega) (by omega) (M1.1 i (by omega) (by omega)).1 ?_)))
      dsimp only
      rw [i32_add]
      refine x_lI (hJ _ _ ⟨?_, rfl⟩)
      rw [s1, s2, if_pos (swc_iff.mpr h5), show sws V i = swg (sdst V i) (vS V 0) from if_pos h5]
      simp only [Int.cast_ofNat_Int, Int.natCast_add, Int.toNat_natCast, i32_add, i32_sub, i32_mul, i32_neg, i32_lit, i64_add, i64_sub, i64_mul, i64_neg, i64_lit, i64_int, Int.natCast_one]
    · rw [if_neg h5]
      refine x_brr (by trivial) (hJ _ _ ⟨?_, rfl⟩)
      rw [s1, s2, if_neg (fun q => h5 (swc_iff.mp q)), show sws V i = 0 from if_neg h5]
      simp only [Int.cast_ofNat_Int, Int.natCast_add, Int.toNat_natCast, i32_add, i32_sub, i32_mul, i32_neg, i32_lit, i64_add, i64_sub, i64_mul, i64_neg, i64_lit, i64_int, Nat.add_zero, Int.add_zero]
  · rintro av μ ⟨rfl, rfl⟩
    dsimp only [bX10_meanSwings, bX10_meanSwings_1]
    ((try rw [show (0 : Int32) = i32 (0) from rfl]); (try simp only [i32_add, i32_sub, i32_mul, i32_neg]))
    have cl := ct_le (swc V) (vn V)
    refine x_gR rfl rfl (x_gIs st8 ?_)
    rw [show I1 8 ((6 : Nat) : Int) = ((vn V : Nat) : Int) from R_n R1]
    refine x_le (by omega) (by omega) (fun _ => ?_) (fun h => by omega)
    unfold msw at hq
    refine x_eq (by omega) (by omega) (fun h => ?_) (fun h => ?_)
    · rw [if_pos (by omega)] at hq; exact hq
    · rw [if_neg (by omega)] at hq; exact ⟨nan_ddiv _ (by omega) (by omega), hq⟩
theorem cq_closedShare (h : Cn I V H) : CqF SX10_closedShare [.ref 0] e I J (csh V) := by
  intro Q hQ
  obtain ⟨hG, hGH, hB, hR, hH, hW, hd⟩ := h
  refine x_in (Nat.le_of_ble_eq_true rfl) ?_
  dsimp only [bX10_closedShare, bX10_closedShare_0]
  ((try rw [show (0 : Int32) = i32 (0) from rfl]); (try simp only [i32_add, i32_sub, i32_mul, i32_neg]))
  have h40 := nL40 hG
  have nc := ncl_nL V (vS V 3)
  refine x_gR rfl rfl (x_ob rfl (x_cV (sp_X10_survey st8 hG hR hW hd fun I1 f1 M1 G1 L1 => ?_)))
  have hq := hQ I1 8 f1.cf st8
  unfold csh at hq
  have e2 : I1 191 ((2 : Nat) : Int) = ((nL V : Nat) : Int) := L1.1
  have e3 : I1 191 ((3 : Nat) : Int) = ((ncl V (vS V 3) 144 : Nat) : Int) := L1.2.1
  refine x_gR rfl rfl (x_gI rfl ?_)
  rw [e2]
  refine x_eq (by omega) (by omega) (fun h => ?_) (fun h => ?_)
  · rw [if_pos (by omega)] at hq; exact hq
  · rw [if_neg (by omega)] at hq
    refine x_gR rfl rfl (x_gI rfl (x_gR rfl rfl (x_gI rfl ?_)))
    rw [e2, e3]
    have ns := (nan_share (ncl V (vS V 3) 144) (by omega) (nL V - 1) (by omega)).1
    rw [show ((nL V - 1 : Nat) : Int) + 1 = (nL V : Int) by omega] at ns
    exact ⟨ns, hq⟩
end Law89
