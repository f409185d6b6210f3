/-! ===== what holds between two calls; what a call leaves as it was ===== -/
def dg0 (I : IM) : Prop := ∀ x, mark12 x → I 190 (12 * x + x) = 0
/-- a question to the class: its scratch alone has changed -/
def Cf (I I' : IM) : Prop := (∀ q, q < 19 ∨ (30 ≤ q ∧ q < 153) ∨ q = 170 ∨ 200 ≤ q → I' q = I q) ∧ dg0 I'
/-- what was reckoned anew in the class -/
def Sf (I I' : IM) : Prop := (∀ q, q < 171 ∨ 199 < q → I' q = I q) ∧ dg0 I'
/-- a question to the reference -/
def Rfr (I I' : IM) : Prop := (∀ q, q < 200 ∨ q = 201 ∨ q = 205 ∨ q = 206 ∨ q = 215 ∨ q = 216 → I' q = I q) ∧ ∀ k, k = 7 ∨ k = 8 ∨ k = 20 ∨ k = 27 ∨ k = 28 ∨ k = 31 → I' 200 k = I 200 k
/-- what stays between calls -/
def Kp (I I' : IM) : Prop := (∀ q, q < 19 ∨ (30 ≤ q ∧ q < 153) ∨ q = 170 ∨ q = 201 ∨ q = 205 ∨ q = 206 ∨ q = 215 ∨ q = 216 → I' q = I q) ∧ (∀ k, k = 7 ∨ k = 8 ∨ k = 20 ∨ k = 27 ∨ k = 28 ∨ k = 31 → I' 200 k = I 200 k) ∧ dg0 I'
theorem Sf.cf {I I' : IM} (h : Sf I I') : Cf I I' := ⟨fun q hq => h.1 q (by omega), h.2⟩
theorem Cf.refl {I : IM} (h : dg0 I) : Cf I I := ⟨fun _ _ => rfl, h⟩
theorem Rfr.refl (I : IM) : Rfr I I := ⟨fun _ _ => rfl, fun _ _ => rfl⟩
theorem Rfr.trans {I I' I2 : IM} (h : Rfr I I') (h2 : Rfr I' I2) : Rfr I I2 := ⟨fun q a => by rw [h2.1 q a, h.1 q a], fun k a => by rw [h2.2 k a, h.2 k a]⟩
theorem Cf.trans {I I' I2 : IM} (h : Cf I I') (h2 : Cf I' I2) : Cf I I2 := ⟨fun q a => by rw [h2.1 q a, h.1 q a], h2.2⟩
theorem Wf.rfr {I I' : IM} (h : Wf I I') : Rfr I I' := ⟨fun q a => h.1 q (by omega) (by omega), fun k a => h.2 k (by omega)⟩
/-- what reckons leaves -/
theorem rkf {I I' : IM} (h1 : ∀ q, q < 207 ∨ 212 < q → q ≠ 200 → I' q = I q) (h2 : ∀ k, k ≠ 10 → I' 200 k = I 200 k) : Rfr I I' := ⟨fun q a => h1 q (by omega) (by omega), fun k a => h2 k (by omega)⟩
theorem Rfr.told {I : IM} {v : Int} : Rfr I (up I 200 0 v) := ⟨fun q a => up_qf (by omega), fun k a => up_k (by omega)⟩
theorem Cf.kp {I I1 I' : IM} (h : Cf I I1) (h2 : Rfr I1 I') : Kp I I' := by
  refine ⟨fun q a => ?_, fun k a => ?_, fun x hx => ?_⟩
  · rw [h2.1 q (by omega), h.1 q (by omega)]
  · rw [h2.2 k a, h.1 200 (by omega)]
  · rw [h2.1 190 (by omega)]; exact h.2 x hx
theorem Cf.rw' {I I' : IM} {V : Vw} (h : Cf I I') (hW : Rrw I 201 0 V) : Rrw I' 201 0 V := hW.keep (h.1 201 (by omega))
theorem Rfr.rw' {I I' : IM} {V : Vw} (h : Rfr I I') (hW : Rrw I 201 0 V) : Rrw I' 201 0 V := hW.keep (h.1 201 (by omega))
theorem Rfr.rh {I I' : IM} {m : Nat} {H : Hw} (h : Rfr I I') (hW : Rhr I 201 0 m H) : Rhr I' 201 0 m H := hW.keep (h.1 201 (by omega))
/-- an answer, or what is thrown -/
abbrev An : Type := Int ⊕ Nat
def rsI (r : An) : Res := match r with
  | .inl v => .inl (some (.int (i32 v)))
  | .inr k => .inr k
def rsJ (r : An) : Res := match r with
  | .inl v => .inl (some (.long (i64 v)))
  | .inr k => .inr k
/-- the class at its state -/
def Cn (I : IM) (V : Vw) (H : Hw) : Prop := Good V ∧ GoodH (vm V) H ∧ HB (vm V) H 700000000 ∧ Rst I 8 V ∧ Rht I 8 H ∧ Rwl I 5 V ∧ dg0 I
/-- the reference at its state -/
def Rn (I : IM) (V : Vw) (H : Hw) : Prop := Good V ∧ GoodH (vm V) H ∧ HB (vm V) H 700000000 ∧ Rrw I 201 0 V ∧ Rhr I 201 0 (vm V) H
def Cq (S : ST) (as : List Value) (e : Nat) (I J : IM) (r : An) : Prop := ∀ Q : Post, (∀ (I' : IM) (e' : Nat), Cf I I' → e' ∈ stLs → Q (rsI r) (ME e' I' J)) → S as (ME e I J) Q
def CqJ (S : ST) (as : List Value) (e : Nat) (I J : IM) (r : An) : Prop := ∀ Q : Post, (∀ (I' : IM) (e' : Nat), Cf I I' → e' ∈ stLs → Q (rsJ r) (ME e' I' J)) → S as (ME e I J) Q
/-- the reference answers v and tells c -/
def Rq (S : ST) (as : List Value) (e : Nat) (I J : IM) (v c : Int) : Prop := ∀ Q : Post, (∀ I' : IM, Rfr I I' → I' 200 0 = c → Q (.inl (some (.int (i32 v)))) (ME e I' J)) → S as (ME e I J) Q
def RqJ (S : ST) (as : List Value) (e : Nat) (I J : IM) (v c : Int) : Prop := ∀ Q : Post, (∀ I' : IM, Rfr I I' → I' 200 0 = c → Q (.inl (some (.long (i64 v)))) (ME e I' J)) → S as (ME e I J) Q
/-- without a word of what is told -/
def Rq0 (S : ST) (as : List Value) (e : Nat) (I J : IM) (v : Int) : Prop := ∀ Q : Post, (∀ I' : IM, Rfr I I' → Q (.inl (some (.int (i32 v)))) (ME e I' J)) → S as (ME e I J) Q
def IR (a : Int) : Prop := -2147483648 ≤ a ∧ a < 2147483648
section Law84
variable {e : Nat} {I J : IM} {Q : Post} {V : Vw} {H : Hw} {a b v : Int}
theorem x_sw {μ : Mem} {f : Nat → Sem} {l : Int} {n : Nat} (ha : -2147483648 ≤ a ∧ a < 2147483648) (hl : -2147483648 ≤ l ∧ l < 2147483648) (h : ∀ k : Nat, k < n → a = l + k → f k μ Q) (h' : (a < l ∨ l + n ≤ a) → f n μ Q) : sw (i32 a) (i32 l) n f μ Q := by
  unfold sw
  rw [i32_toInt ha.1 ha.2, i32_toInt hl.1 hl.2]
  split
  · rename_i c
    exact h _ (by omega) (by omega)
  · rename_i c
    exact h' (by omega)
theorem x_brr {c : Prop} {f g : Sem} {μ : Mem} (hc : c) (h : f μ Q) : br c f g μ Q := ⟨fun _ => h, fun h' => absurd hc h'⟩
theorem st8 : (8 : Nat) ∈ stLs := by decide
theorem st19 : (19 : Nat) ∈ stLs := by decide
theorem st30 : (30 : Nat) ∈ stLs := by decide
theorem st157 : (157 : Nat) ∈ stLs := by decide
theorem sp_X10_survey {d : Nat} (hd : d ∈ stLs) (hG : Good V) (hR : Rst I d V) (hW : Rwl I 5 V) (h0 : dg0 I)
    (hQ : ∀ I' : IM, Sf I I' → Md I' V → Gw I' V → Gl I' V (vS V 3) 144 → Q (.inl none) (ME d I' J)) : SX10_survey [.ref 0, .ref d] (ME e I J) Q := by
  refine x_in (Nat.le_of_ble_eq_true rfl) ?_
  dsimp only [bX10_survey, bX10_survey_0]
  have rg := st_rg hd
  have lim := hG.2.2.2.2.2.1
  ((try rw [show (3 : Int32) = i32 (3) from rfl]); (try simp only [i32_add, i32_sub, i32_mul, i32_neg]))
  refine x_gR rfl rfl (x_ob rfl (x_cV (sp_X0_measure hd hG hR hW fun I1 f1 M1 => ?_)))
  have R1 := f1.st hd hR
  have W1 := f1.wl hW
  refine x_gR rfl rfl (x_ob rfl (x_cV (sp_X1_grow hG M1 (fun x hx => by rw [f1 190 (by omega)]; exact h0 x hx) fun I2 f2 G2 d2 => ?_)))
  have M2 : Md I2 V := Fr2 (q := 0) f2 M1
  have R2 : Rst I2 d V := R1.keep fun k hk => f2 _ (by omega)
  have W2 : Rwl I2 5 V := W1.keep fun k hk => f2 _ (by omega)
  refine x_gR rfl rfl (x_obs hd (x_cI (sp_X6_settingOf hd hd R2 (by omega) (by omega) (x_ob rfl (x_cV (sp_X4_gather hG W2 M2 G2 (by omega) fun I3 f3 G3 => ?_))))))
  have M3 : Md I3 V := M2.keep fun p a b => f3 p (by omega)
  have Gw3 : Gw I3 V := by
    unfold Gw Rf at *
    rw [f3 185 (by omega), f3 187 (by omega), f3 188 (by omega), f3 189 (by omega), f3 190 (by omega)]
    exact G2
  exact x_rV (hQ I3 ⟨fun q hq => by rw [f3 q (by omega), f2 q (by omega), f1 q (by omega)], fun x hx => by rw [f3 190 (by omega)]; exact d2 x hx⟩ M3 Gw3 G3)
theorem sp_X10_needMark (hm : vm V ≤ 12) (hW : Rwl I 5 V) (ha : -2147483648 ≤ a ∧ a < 2147483648) (h1 : 0 ≤ a → a < vm V → Q (.inl none) (ME e I J)) (h2 : a < 0 ∨ vm V ≤ a → Q (.inr 1) (ME e I J)) : SX10_needMark [.ref 0, .int (i32 a)] (ME e I J) Q := by
  refine x_in (Nat.le_of_ble_eq_true rfl) ?_
  dsimp only [bX10_needMark, bX10_needMark_0]
  ((try rw [show (0 : Int32) = i32 (0) from rfl]); (try simp only [i32_add, i32_sub, i32_mul, i32_neg]))
  refine x_lt (by omega) (by omega) (fun h => x_thr (h2 (Or.inl h))) (fun h => x_gR rfl rfl (x_gI rfl ?_))
  rw [show I 5 ((0 : Nat) : Int) = ((vm V : Nat) : Int) from hW.1]
  exact x_lt (by omega) (by omega) (fun g => x_rV (h1 h g)) (fun g => x_thr (h2 (Or.inr g)))
theorem sp_X10_needSight (hn : vn V ≤ 40) (hR : Rst I 8 V) (ha : -2147483648 ≤ a ∧ a < 2147483648) (h1 : 0 ≤ a → a < vn V → Q (.inl none) (ME e I J)) (h2 : a < 0 ∨ vn V ≤ a → Q (.inr 1) (ME e I J)) : SX10_needSight [.ref 0, .int (i32 a)] (ME e I J) Q := by
  refine x_in (Nat.le_of_ble_eq_true rfl) ?_
  dsimp only [bX10_needSight, bX10_needSight_0]
  ((try rw [show (0 : Int32) = i32 (0) from rfl]); (try simp only [i32_add, i32_sub, i32_mul, i32_neg]))
  refine x_lt (by omega) (by omega) (fun h => x_thr (h2 (Or.inl h))) (fun h => x_gR rfl rfl (x_gIs st8 ?_))
  rw [show I 8 ((6 : Nat) : Int) = ((vn V : Nat) : Int) from R_n hR]
  exact x_lt (by omega) (by omega) (fun g => x_rV (h1 h g)) (fun g => x_thr (h2 (Or.inr g)))
theorem sp_X10_needLoop (hG : Good V) (hL : I 191 2 = nL V) (ha : -2147483648 ≤ a ∧ a < 2147483648) (h1 : 0 ≤ a → a < nL V → Q (.inl none) (ME e I J)) (h2 : a < 0 ∨ nL V ≤ a → Q (.inr 1) (ME e I J)) : SX10_needLoop [.ref 0, .int (i32 a)] (ME e I J) Q := by
  refine x_in (Nat.le_of_ble_eq_true rfl) ?_
  dsimp only [bX10_needLoop, bX10_needLoop_0]
  have n := nL40 hG
  ((try rw [show (0 : Int32) = i32 (0) from rfl]); (try simp only [i32_add, i32_sub, i32_mul, i32_neg]))
  refine x_lt (by omega) (by omega) (fun h => x_thr (h2 (Or.inl h))) (fun h => x_gR rfl rfl (x_gI rfl ?_))
  rw [show I 191 ((2 : Nat) : Int) = ((nL V : Nat) : Int) from hL]
  exact x_lt (by omega) (by omega) (fun g => x_rV (h1 h g)) (fun g => x_thr (h2 (Or.inr g)))
theorem sp_X10_needRange {l u : Int} (ha : -2147483648 ≤ a ∧ a < 2147483648) (hl : -2147483648 ≤ l ∧ l < 2147483648) (hu : -2147483648 ≤ u ∧ u < 2147483648) (h1 : l ≤ a → a ≤ u → Q (.inl none) (ME e I J)) (h2 : a < l ∨ u < a → Q (.inr 2) (ME e I J)) : SX10_needRange [.int (i32 a), .int (i32 l), .int (i32 u)] (ME e I J) Q := by
  refine x_in (Nat.le_of_ble_eq_true rfl) ?_
  dsimp only [bX10_needRange, bX10_needRange_0]
  exact x_lt (by omega) (by omega) (fun h => x_thr (h2 (Or.inl h))) (fun h => x_le (by omega) (by omega) (fun g => x_rV (h1 h g)) (fun g => x_thr (h2 (Or.inr g))))
def seL (w : Int) : Int := if w = 0 then 1 else if w = 2 then -99 else 0
def seU (w : Int) : Int := if w = 0 then 9999 else if w = 3 then 999 else 99
theorem sI_lo : ∀ w : Nat, w < 4 → sI 1000 w = i32 (seL w) := by decide +kernel
theorem sI_up : ∀ w : Nat, w < 4 → sI 1001 w = i32 (seU w) := by decide +kernel
theorem sI_fi : ∀ w : Nat, w < 4 → sI 1002 w = i32 (if (w : Int) = 0 then 1000 else if (w : Int) = 3 then 10 else 0) := by decide +kernel
theorem sp_X10_needSettingRange {w : Int} (hw : 0 ≤ w ∧ w < 4) (ha : -2147483648 ≤ a ∧ a < 2147483648) (h1 : seL w ≤ a → a ≤ seU w → Q (.inl none) (ME e I J)) (h2 : a < seL w ∨ seU w < a → Q (.inr 2) (ME e I J)) : SX10_needSettingRange [.int (i32 w), .int (i32 a)] (ME e I J) Q := by
  refine x_in (Nat.le_of_ble_eq_true rfl) ?_
  dsimp only [bX10_needSettingRange, bX10_needSettingRange_0]
  refine x_cI (sp_X10_cellS (i := 0) (by omega) hw.1 hw.2 ?_)
  refine x_cI (sp_X10_cellS (i := 1) (by omega) hw.1 hw.2 ?_)
  dsimp only
  rw [show sI (1000 + 0) w.toNat = i32 (seL w) by have := sI_lo w.toNat (by omega); rwa [Int.toNat_of_nonneg hw.1] at this, show sI (1000 + 1) w.toNat = i32 (seU w) by have := sI_up w.toNat (by omega); rwa [Int.toNat_of_nonneg hw.1] at this]
  refine x_cV (sp_X10_needRange ha ?_ ?_ (fun g h => x_rV (h1 g h)) h2)
  · unfold seL; split <;> (try split) <;> omega
  · unfold seU; split <;> (try split) <;> omega
end Law84
