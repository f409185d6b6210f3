/-! ===== the class's tokens ===== -/
def Qw (I : IM) : Prop := ∀ i : Nat, i < 11 → I 170 i = enc 32 (kwL i)
def By (l : List Int) : Prop := l.length ≤ 900 ∧ ∀ c ∈ l, 0 ≤ c ∧ c < 256
/-- the class's Tokens hold a token -/
def Tc (I : IM) (t : Tk) : Prop := I 169 2 = tK t ∧ I 169 3 = tS t ∧ I 169 4 = tE t ∧ (tK t = 11 → I 169 5 = enc 32 (tN t)) ∧ (tK t = 12 → I 169 6 = tV t)
theorem bt_rg {l : List Int} (h : By l) (k : Nat) : -1 ≤ bt l k ∧ bt l k < 256 := by
  unfold bt
  split
  · rename_i hk
    have := h.2 (l.getD k 0) (by rw [List.getD_eq_getElem?_getD, List.getElem?_eq_getElem hk]; exact List.getElem_mem hk)
    omega
  · omega
theorem Tx_bt {I : IM} {t r : Nat} {l : List Int} (hT : Tx I t r l) {k : Nat} (hk : k < l.length) : I r k = bt l k := by
  rw [hT.2 k hk]; unfold bt; rw [if_pos hk]
theorem kwf_keep (w : List Nat) (i : Nat) (h : kwf w i ≠ 11) : ∀ k, i ≤ k → kwf w k = kwf w i := by
  intro k hk
  induction k with
  | zero => rw [Nat.le_zero.mp hk]
  | succ k ih =>
    by_cases h2 : i = k + 1
    · rw [h2]
    · simp only [kwf]
      rw [ih (by omega), if_neg h]
section Tok60
variable {e : Nat} {I J : IM} {Q : Post} {V : Vw} {H : Hw} {a b c v s : Int} {l : List Int}
theorem sp_X10_isLetter (hc : -2147483648 ≤ c ∧ c < 2147483648) (hQ : Q (.inl (some (.int (i32 (if isLt c = true then 1 else 0))))) (ME e I J)) : SX10_isLetter [.int (i32 c)] (ME e I J) Q := by
  refine x_in (Nat.le_of_ble_eq_true rfl) ?_
  dsimp only [bX10_isLetter, bX10_isLetter_0]
  ((try rw [show (0 : Int32) = i32 (0) from rfl]); (try rw [show (1 : Int32) = i32 (1) from rfl]); (try rw [show (97 : Int32) = i32 (97) from rfl]); (try rw [show (122 : Int32) = i32 (122) from rfl]); (try simp only [i32_add, i32_sub, i32_mul, i32_neg]))
  refine x_lt (by omega) (by omega) (fun h => x_rZ (by omega) ?_) (fun h => x_lt (by omega) (by omega) (fun h2 => x_rZ (by omega) ?_) (fun h2 => x_rZ (by omega) ?_))
  · rwa [if_neg (fun q => by have := isLt_iff.mp q; omega)] at hQ
  · rwa [if_neg (fun q => by have := isLt_iff.mp q; omega)] at hQ
  · rwa [if_pos (isLt_iff.mpr ⟨h, h2⟩)] at hQ
theorem sp_X8_isDigit (hc : -2147483648 ≤ c ∧ c < 2147483648) (hQ : Q (.inl (some (.int (i32 (if isDg c = true then 1 else 0))))) (ME e I J)) : SX8_isDigit [.int (i32 c)] (ME e I J) Q := by
  refine x_in (Nat.le_of_ble_eq_true rfl) ?_
  dsimp only [bX8_isDigit, bX8_isDigit_0]
  ((try rw [show (0 : Int32) = i32 (0) from rfl]); (try rw [show (1 : Int32) = i32 (1) from rfl]); (try rw [show (48 : Int32) = i32 (48) from rfl]); (try rw [show (57 : Int32) = i32 (57) from rfl]); (try simp only [i32_add, i32_sub, i32_mul, i32_neg]))
  refine x_lt (by omega) (by omega) (fun h => x_rZ (by omega) ?_) (fun h => x_lt (by omega) (by omega) (fun h2 => x_rZ (by omega) ?_) (fun h2 => x_rZ (by omega) ?_))
  · rwa [if_neg (fun q => by have := isDg_iff.mp q; omega)] at hQ
  · rwa [if_neg (fun q => by have := isDg_iff.mp q; omega)] at hQ
  · rwa [if_pos (isDg_iff.mpr ⟨h, h2⟩)] at hQ
theorem sp_X8_isBlank (hc : -2147483648 ≤ c ∧ c < 2147483648) (hQ : Q (.inl (some (.int (i32 (if isBl c = true then 1 else 0))))) (ME e I J)) : SX8_isBlank [.int (i32 c)] (ME e I J) Q := by
  refine x_in (Nat.le_of_ble_eq_true rfl) ?_
  dsimp only [bX8_isBlank, bX8_isBlank_0]
  ((try rw [show (0 : Int32) = i32 (0) from rfl]); (try rw [show (1 : Int32) = i32 (1) from rfl]); (try rw [show (32 : Int32) = i32 (32) from rfl]); (try rw [show (10 : Int32) = i32 (10) from rfl]); (try simp only [i32_add, i32_sub, i32_mul, i32_neg]))
  refine x_eq (by omega) (by omega) (fun h => x_rZ (by omega) ?_) (fun h => x_eq (by omega) (by omega) (fun h2 => x_rZ (by omega) ?_) (fun h2 => x_rZ (by omega) ?_))
  · rwa [if_pos (isBl_iff.mpr (Or.inl h))] at hQ
  · rwa [if_pos (isBl_iff.mpr (Or.inr h2))] at hQ
  · rwa [if_neg (fun q => by have := isBl_iff.mp q; omega)] at hQ
theorem sp_X10_withLetter (hc : 97 ≤ c ∧ c ≤ 122) (hQ : Q (.inl (some (.int (i32 (32 * v + (c - 96)))))) (ME e I J)) : SX10_withLetter [.int (i32 v), .int (i32 c)] (ME e I J) Q := by
  refine x_in (Nat.le_of_ble_eq_true rfl) ?_
  dsimp only [bX10_withLetter, bX10_withLetter_0]
  rw [show (97 : Int32) = i32 97 from rfl, show (1 : Int32) = i32 1 from rfl, i32_sub, i32_add, i32_shl (by omega)]
  rw [show c - 97 + 1 = c - 96 by omega]
  exact x_rI hQ
/-- the byte at the end of the token -/
theorem t_at {k : Nat} (hT : Tx I 1 2 l) (hk : k < l.length) (hB : By l) {F : Int32 → Sem} (h : F (i32 (bt l k)) (ME e I J) Q) : cI SX10_cell [.ref 2, .int (i32 k)] F (ME e I J) Q := by
  have := hB.1
  refine x_cI (sp_X10_cell (n := 900) rfl (by omega) (by omega) (by omega) (by omega) ?_)
  rw [Tx_bt hT hk]
  exact h
theorem Tx.keep {I I' : IM} {t r : Nat} {l : List Int} (h : Tx I t r l) (h1 : I' t = I t) (h2 : I' r = I r) : Tx I' t r l := by unfold Tx at *; rw [h1, h2]; exact h
theorem sp_X8_readWord (hT : Tx I 1 2 l) (hB : By l) (hq : Qw I) {p : Nat} (hp : p < l.length) (h3 : I 169 3 = p) (h4 : I 169 4 = p)
    (hQ : ∀ I' : IM, (∀ q, q ≠ 169 → I' q = I q) → I' 169 2 = (if ru isLt l p - p ≤ 6 then kw (nms l p (ru isLt l p - p)) else 16 : Nat) → I' 169 3 = p → I' 169 4 = (ru isLt l p : Nat) → I' 169 5 = enc 32 (nms l p (ru isLt l p - p)) → Q (.inl none) (ME e I' J)) : SX8_readWord [.ref 169] (ME e I J) Q := by
  refine x_in (Nat.le_of_ble_eq_true rfl) ?_
  dsimp only [bX8_readWord, bX8_readWord_0]
  ((try rw [show (0 : Int32) = i32 (0) from rfl]); (try simp only [i32_add, i32_sub, i32_mul, i32_neg]))
  have b900 := hB.1
  have L := ru_ok (P := isLt) (l := l) (p := p) (by omega) rfl
  generalize ru isLt l p = z at *
  refine x_pI rfl ?_
  rw [show ((5 : Nat) : Int) = 5 from rfl]
  -- behind the word
  have fin : ∀ I1 : IM, (∀ q, q ≠ 169 → I1 q = I q) → I1 169 3 = p → I1 169 4 = (z : Nat) → I1 169 5 = enc 32 (nms l p (z - p)) → fx bX8_readWord 2 [.ref 169] (ME e I1 J) Q := by
    intro I1 f1 a3 a4 a5
    refine fx_in ?_
    dsimp only [bX8_readWord, bX8_readWord_2]
    ((try rw [show (0 : Int32) = i32 (0) from rfl]); (try rw [show (6 : Int32) = i32 (6) from rfl]); (try rw [show (11 : Int32) = i32 (11) from rfl]); (try rw [show (16 : Int32) = i32 (16) from rfl]); (try simp only [i32_add, i32_sub, i32_mul, i32_neg]))
    refine x_gI rfl (x_gI rfl ?_)
    rw [show I1 169 ((4 : Nat) : Int) = (z : Int) from a4, show I1 169 ((3 : Nat) : Int) = (p : Int) from a3, i32_sub]
    refine x_lt (by omega) (by omega) (fun h => x_pI rfl (fx_in ?_)) (fun h => x_pI rfl ?_)
    · dsimp only [bX8_readWord, bX8_readWord_3]
      ((try rw [show (0 : Int32) = i32 (0) from rfl]); (try rw [show (11 : Int32) = i32 (11) from rfl]); (try simp only [i32_add, i32_sub, i32_mul, i32_neg]))
      refine x_gR rfl rfl (x_aL (n := 11) rfl (Or.inl rfl) (x_le (by omega) (by omega) (fun h => by omega) (fun _ => x_gI rfl ?_)))
      rw [up_self]
      refine x_eq (by omega) (by omega) (fun h => by omega) (fun _ => x_rV (hQ _ (fun q a => by rw [up_qf a, f1 q a]) ?_ ?_ ?_ ?_))
      · rw [if_neg (by omega), show ((2 : Nat) : Int) = 2 from rfl, up_self]; rfl
      · rw [up_k (by omega)]; exact a3
      · rw [up_k (by omega)]; exact a4
      · rw [up_k (by omega)]; exact a5
    · rw [if_pos (by omega)] at hQ
      have wl := nms_len l p (z - p)
      have wm := nms_mem (l := l) (s := p) (n := z - p) (fun j a b => L.2.2.1 j a (by omega))
      have wb := enc_lt (B := 32) _ (nms l p (z - p)) rfl (fun c hc => by have := wm c hc; omega)
      have wb2 : enc 32 (nms l p (z - p)) < 1073741824 := by
        refine Int.lt_of_lt_of_le wb.2 ?_
        rw [wl]
        have key : ∀ k : Nat, k ≤ 6 → ((32 : Nat) : Int) ^ k ≤ 1073741824 := by decide +kernel
        exact key _ (by omega)
      have wb1 : 0 ≤ enc 32 (nms l p (z - p)) := wb.1
      refine x_for 11 (fun i av μ => ∃ I2 : IM, av = [.ref 169, .int (i32 i)] ∧ μ = ME e I2 J ∧ (∀ q, q ≠ 169 → I2 q = I q) ∧ I2 169 2 = (kwf (nms l p (z - p)) i : Nat) ∧ I2 169 3 = p ∧ I2 169 4 = (z : Nat) ∧ I2 169 5 = enc 32 (nms l p (z - p))) ?_ ?_ (Nat.zero_le _) ⟨_, rfl, rfl, fun q a => by rw [up_qf a, f1 q a], by rw [show ((2 : Nat) : Int) = 2 from rfl, up_self]; rfl, by rw [up_k (by omega)]; exact a3, by rw [up_k (by omega)]; exact a4, by rw [up_k (by omega)]; exact a5⟩
      · rintro i av μ hi ⟨I2, rfl, rfl, g, g2, g3, g4, g5⟩ hJ
        dsimp only [bX8_readWord, bX8_readWord_3]
        ((try rw [show (0 : Int32) = i32 (0) from rfl]); (try rw [show (1 : Int32) = i32 (1) from rfl]); (try rw [show (11 : Int32) = i32 (11) from rfl]); (try simp only [i32_add, i32_sub, i32_mul, i32_neg]))
        have ks : kwf (nms l p (z - p)) (i + 1) = if kwf (nms l p (z - p)) i = 11 then (if kwL i = nms l p (z - p) then i else 11) else kwf (nms l p (z - p)) i := rfl
        have kr := kwf_rg (nms l p (z - p)) i (by omega)
        refine x_gR rfl rfl (x_aL (n := 11) rfl (Or.inl rfl) (x_le (by omega) (by omega) (fun h => by omega) (fun _ => x_gI rfl ?_)))
        rw [show I2 169 ((2 : Nat) : Int) = (kwf (nms l p (z - p)) i : Nat) from g2]
        refine x_eq (by omega) (by omega) (fun h => ?_) (fun h => ?_)
        · rw [if_pos (by omega)] at ks
          refine x_gR rfl rfl (x_aI (n := 11) rfl (by omega) (by omega) (by omega) (x_gI rfl ?_))
          have qi : I2 170 i = enc 32 (kwL i) := by rw [g 170 (by omega)]; exact hq i hi
          have ko := kwL_ok i hi
          have kb := enc_bd _ ko
          rw [qi, show I2 169 ((5 : Nat) : Int) = enc 32 (nms l p (z - p)) from g5]
          refine x_eq (by omega) (by omega) (fun h2 => x_pI rfl (hJ _ _ ⟨_, rfl, rfl, fun q a => by rw [up_qf a, g q a], ?_, by rw [up_k (by omega)]; exact g3, by rw [up_k (by omega)]; exact g4, by rw [up_k (by omega)]; exact g5⟩)) (fun h2 => hJ _ _ ⟨I2, rfl, rfl, g, ?_, g3, g4, g5⟩)
          · rw [show ((2 : Nat) : Int) = 2 from rfl, up_self, ks, if_pos (enc_inj (B := 32) _ _ _ rfl (fun c hc => by have := ko.2.2 c hc; omega) (fun c hc => by have := wm c hc; omega) h2)]
          · rw [ks, if_neg (fun q => h2 (by rw [q])), g2]; omega
        · have k0 := kwf_keep (nms l p (z - p)) i (by omega) 11 (by omega)
          exact x_rV (hQ I2 g (by rw [g2]; unfold kw; rw [k0]) g3 g4 g5)
      · rintro av μ ⟨I2, rfl, rfl, g, g2, g3, g4, g5⟩
        dsimp only [bX8_readWord, bX8_readWord_3]
        exact x_gR rfl rfl (x_aL (n := 11) rfl (Or.inl rfl) (x_le (by omega) (by omega) (fun _ => x_rV (hQ I2 g g2 g3 g4 g5)) (fun h => by omega)))
  refine x_for (z - p) (fun i av μ => ∃ I1 : IM, av = [.ref 169] ∧ μ = ME e I1 J ∧ (∀ q, q ≠ 169 → I1 q = I q) ∧ I1 169 3 = p ∧ I1 169 4 = ((p + i : Nat) : Int) ∧ I1 169 5 = enc 32 (nms l p i)) ?_ ?_ (Nat.zero_le _) ⟨_, rfl, rfl, fun q a => by rw [up_qf a], by rw [up_k (by omega)]; exact h3, by rw [up_k (by omega), h4]; rfl, by rw [up_self]; rfl⟩
  · rintro i av μ hi ⟨I1, rfl, rfl, g, g3, g4, g5⟩ hJ
    dsimp only [bX8_readWord, bX8_readWord_1]
    ((try rw [show (0 : Int32) = i32 (0) from rfl]); (try rw [show (1 : Int32) = i32 (1) from rfl]); (try simp only [i32_add, i32_sub, i32_mul, i32_neg]))
    have T1 := hT.keep (g 1 (by omega)) (g 2 (by omega))
    have hl := isLt_iff.mp (L.2.2.1 (p + i) (by omega) (by omega))
    refine x_gI rfl (x_gR rfl rfl (x_gI rfl ?_))
    rw [show I1 169 ((4 : Nat) : Int) = ((p + i : Nat) : Int) from g4, show I1 1 ((1 : Nat) : Int) = (l.length : Int) from T1.1]
    refine x_le (by omega) (by omega) (fun h => by omega) (fun _ => x_gR rfl rfl (x_gR rfl rfl (x_gI rfl ?_)))
    rw [show I1 169 ((4 : Nat) : Int) = ((p + i : Nat) : Int) from g4]
    refine t_at T1 (by omega) hB (x_cI (sp_X10_isLetter (by omega) ?_))
    rw [if_pos (isLt_iff.mpr hl)]
    refine x_eq (by omega) (by omega) (fun h => by omega) (fun _ => x_gI rfl (x_gR rfl rfl (x_gR rfl rfl (x_gI rfl ?_))))
    rw [show I1 169 ((4 : Nat) : Int) = ((p + i : Nat) : Int) from g4, show I1 169 ((5 : Nat) : Int) = enc 32 (nms l p i) from g5]
    refine t_at T1 (by omega) hB (x_cI (sp_X10_withLetter hl (x_pI rfl (x_gI rfl ?_))))
    rw [up_k (by omega), show I1 169 ((4 : Nat) : Int) = ((p + i : Nat) : Int) from g4, i32_add]
    refine x_pI rfl (hJ _ _ ⟨_, rfl, rfl, fun q a => by rw [up_qf a, up_qf a, g q a], ?_, ?_, ?_⟩)
    · rw [up_k (by omega), up_k (by omega)]; exact g3
    · rw [show ((4 : Nat) : Int) = 4 from rfl, up_self]; omega
    · rw [up_k (by omega), show ((5 : Nat) : Int) = 5 from rfl, up_self]
      show _ = enc 32 (nms l p i ++ [(bt l (p + i) - 96).toNat])
      rw [enc_snoc]; omega
  · rintro av μ ⟨I1, rfl, rfl, g, g3, g4, g5⟩
    dsimp only [bX8_readWord, bX8_readWord_1]
    ((try rw [show (0 : Int32) = i32 (0) from rfl]); (try rw [show (1 : Int32) = i32 (1) from rfl]); (try simp only [i32_add, i32_sub, i32_mul, i32_neg]))
    have T1 := hT.keep (g 1 (by omega)) (g 2 (by omega))
    rw [show p + (z - p) = z by omega] at g4
    have fn := fin I1 g g3 g4 g5
    refine x_gI rfl (x_gR rfl rfl (x_gI rfl ?_))
    rw [show I1 169 ((4 : Nat) : Int) = (z : Int) from g4, show I1 1 ((1 : Nat) : Int) = (l.length : Int) from T1.1]
    refine x_le (by omega) (by omega) (fun _ => fn) (fun h => x_gR rfl rfl (x_gR rfl rfl (x_gI rfl ?_)))
    rw [show I1 169 ((4 : Nat) : Int) = (z : Int) from g4]
    have br := bt_rg hB z
    refine t_at T1 (by omega) hB (x_cI (sp_X10_isLetter (by omega) ?_))
    rw [if_neg (by rw [L.2.2.2]; decide)]
    exact x_eq (by omega) (by omega) (fun _ => fn) (fun h => absurd rfl h)
theorem sp_X8_readNumber (hT : Tx I 1 2 l) (hB : By l) {p : Nat} (hp : p < l.length) (h3 : I 169 3 = p) (h4 : I 169 4 = p)
    (hQ : ∀ I' : IM, (∀ q, q ≠ 169 → I' q = I q) → I' 169 2 = (if ru isDg l p - p ≤ 5 then 12 else 16 : Nat) → I' 169 3 = p → I' 169 4 = (ru isDg l p : Nat) → I' 169 6 = vls l p (ru isDg l p - p) → Q (.inl none) (ME e I' J)) : SX8_readNumber [.ref 169] (ME e I J) Q := by
  refine x_in (Nat.le_of_ble_eq_true rfl) ?_
  dsimp only [bX8_readNumber, bX8_readNumber_0]
  ((try rw [show (0 : Int32) = i32 (0) from rfl]); (try simp only [i32_add, i32_sub, i32_mul, i32_neg]))
  have b900 := hB.1
  have L := ru_ok (P := isDg) (l := l) (p := p) (by omega) rfl
  generalize ru isDg l p = z at *
  refine x_pI rfl ?_
  rw [show ((6 : Nat) : Int) = 6 from rfl]
  have fin : ∀ I1 : IM, (∀ q, q ≠ 169 → I1 q = I q) → I1 169 3 = p → I1 169 4 = (z : Nat) → I1 169 6 = vls l p (z - p) → fx bX8_readNumber 2 [.ref 169] (ME e I1 J) Q := by
    intro I1 f1 a3 a4 a5
    refine fx_in ?_
    dsimp only [bX8_readNumber, bX8_readNumber_2]
    ((try rw [show (5 : Int32) = i32 (5) from rfl]); (try rw [show (12 : Int32) = i32 (12) from rfl]); (try rw [show (16 : Int32) = i32 (16) from rfl]); (try simp only [i32_add, i32_sub, i32_mul, i32_neg]))
    refine x_gI rfl (x_gI rfl ?_)
    rw [show I1 169 ((4 : Nat) : Int) = (z : Int) from a4, show I1 169 ((3 : Nat) : Int) = (p : Int) from a3, i32_sub]
    refine x_lt (by omega) (by omega) (fun h => x_pI rfl (x_rV (hQ _ (fun q a => by rw [up_qf a, f1 q a]) ?_ ?_ ?_ ?_))) (fun h => x_pI rfl (x_rV (hQ _ (fun q a => by rw [up_qf a, f1 q a]) ?_ ?_ ?_ ?_)))
    · rw [if_neg (by omega), show ((2 : Nat) : Int) = 2 from rfl, up_self]; rfl
    · rw [up_k (by omega)]; exact a3
    · rw [up_k (by omega)]; exact a4
    · rw [up_k (by omega)]; exact a5
    · rw [if_pos (by omega), show ((2 : Nat) : Int) = 2 from rfl, up_self]; rfl
    · rw [up_k (by omega)]; exact a3
    · rw [up_k (by omega)]; exact a4
    · rw [up_k (by omega)]; exact a5
  refine x_for (z - p) (fun i av μ => ∃ I1 : IM, av = [.ref 169] ∧ μ = ME e I1 J ∧ (∀ q, q ≠ 169 → I1 q = I q) ∧ I1 169 3 = p ∧ I1 169 4 = ((p + i : Nat) : Int) ∧ I1 169 6 = vls l p i) ?_ ?_ (Nat.zero_le _) ⟨_, rfl, rfl, fun q a => by rw [up_qf a], by rw [up_k (by omega)]; exact h3, by rw [up_k (by omega), h4]; rfl, by rw [up_self]; rfl⟩
  · rintro i av μ hi ⟨I1, rfl, rfl, g, g3, g4, g5⟩ hJ
    dsimp only [bX8_readNumber, bX8_readNumber_1]
    ((try rw [show (0 : Int32) = i32 (0) from rfl]); (try rw [show (1 : Int32) = i32 (1) from rfl]); (try rw [show (10 : Int32) = i32 (10) from rfl]); (try rw [show (48 : Int32) = i32 (48) from rfl]); (try simp only [i32_add, i32_sub, i32_mul, i32_neg]))
    have T1 := hT.keep (g 1 (by omega)) (g 2 (by omega))
    have hl := isDg_iff.mp (L.2.2.1 (p + i) (by omega) (by omega))
    refine x_gI rfl (x_gR rfl rfl (x_gI rfl ?_))
    rw [show I1 169 ((4 : Nat) : Int) = ((p + i : Nat) : Int) from g4, show I1 1 ((1 : Nat) : Int) = (l.length : Int) from T1.1]
    refine x_le (by omega) (by omega) (fun h => by omega) (fun _ => x_gR rfl rfl (x_gR rfl rfl (x_gI rfl ?_)))
    rw [show I1 169 ((4 : Nat) : Int) = ((p + i : Nat) : Int) from g4]
    refine t_at T1 (by omega) hB (x_cI (sp_X8_isDigit (by omega) ?_))
    rw [if_pos (isDg_iff.mpr hl)]
    refine x_eq (by omega) (by omega) (fun h => by omega) (fun _ => x_gI rfl (x_gR rfl rfl (x_gR rfl rfl (x_gI rfl ?_))))
    rw [show I1 169 ((4 : Nat) : Int) = ((p + i : Nat) : Int) from g4, show I1 169 ((6 : Nat) : Int) = vls l p i from g5]
    refine t_at T1 (by omega) hB ?_
    rw [i32_mul, i32_add, i32_sub]
    refine x_pI rfl (x_gI rfl ?_)
    rw [up_k (by omega), show I1 169 ((4 : Nat) : Int) = ((p + i : Nat) : Int) from g4, i32_add]
    refine x_pI rfl (hJ _ _ ⟨_, rfl, rfl, fun q a => by rw [up_qf a, up_qf a, g q a], ?_, ?_, ?_⟩)
    · rw [up_k (by omega), up_k (by omega)]; exact g3
    · rw [show ((4 : Nat) : Int) = 4 from rfl, up_self]; omega
    · rw [up_k (by omega), show ((6 : Nat) : Int) = 6 from rfl, up_self]
      rfl
  · rintro av μ ⟨I1, rfl, rfl, g, g3, g4, g5⟩
    dsimp only [bX8_readNumber, bX8_readNumber_1]
    ((try rw [show (0 : Int32) = i32 (0) from rfl]); (try rw [show (1 : Int32) = i32 (1) from rfl]); (try simp only [i32_add, i32_sub, i32_mul, i32_neg]))
    have T1 := hT.keep (g 1 (by omega)) (g 2 (by omega))
    rw [show p + (z - p) = z by omega] at g4
    have fn := fin I1 g g3 g4 g5
    refine x_gI rfl (x_gR rfl rfl (x_gI rfl ?_))
    rw [show I1 169 ((4 : Nat) : Int) = (z : Int) from g4, show I1 1 ((1 : Nat) : Int) = (l.length : Int) from T1.1]
    refine x_le (by omega) (by omega) (fun _ => fn) (fun h => x_gR rfl rfl (x_gR rfl rfl (x_gI rfl ?_)))
    rw [show I1 169 ((4 : Nat) : Int) = (z : Int) from g4]
    have br := bt_rg hB z
    refine t_at T1 (by omega) hB (x_cI (sp_X8_isDigit (by omega) ?_))
    rw [if_neg (by rw [L.2.2.2]; decide)]
    exact x_eq (by omega) (by omega) (fun _ => fn) (fun h => absurd rfl h)
theorem bt_ob (hl : l.length < 2147483648) (k : Nat) : obA l k = bt l k := by
  unfold obA bt
  by_cases h : k < l.length
  · rw [if_pos (by omega), if_pos h]; rfl
  · rw [if_neg (by omega), if_neg h]
theorem sp_X8_advance (hT : Tx I 1 2 l) (hB : By l) (hq : Qw I) {p : Nat} (hp : p ≤ l.length) (h4 : I 169 4 = p)
    (hQ : ∀ I' : IM, (∀ q, q ≠ 169 → I' q = I q) → Tc I' (tk l p) → Q (.inl none) (ME e I' J)) : SX8_advance [.ref 169] (ME e I J) Q := by
  refine x_in (Nat.le_of_ble_eq_true rfl) ?_
  dsimp only [bX8_advance, bX8_advance_0]
  have b900 := hB.1
  have L := ru_ok (P := isBl) (l := l) (p := p) hp rfl
  unfold tk at hQ
  generalize ru isBl l p = z at *
  refine x_gI rfl (x_pI rfl ?_)
  rw [show I 169 ((4 : Nat) : Int) = (p : Int) from h4, show ((3 : Nat) : Int) = 3 from rfl]
  have fin : ∀ I1 : IM, (∀ q, q ≠ 169 → I1 q = I q) → I1 169 3 = (z : Nat) → fx bX8_advance 2 [.ref 169] (ME e I1 J) Q := by
    intro I1 f1 a3
    refine fx_in ?_
    dsimp only [bX8_advance, bX8_advance_2]
    ((try rw [show (0 : Int32) = i32 (0) from rfl]); (try rw [show (1 : Int32) = i32 (1) from rfl]); (try rw [show (-1 : Int32) = i32 (-1) from rfl]); (try rw [show (13 : Int32) = i32 (13) from rfl]); (try rw [show (14 : Int32) = i32 (14) from rfl]); (try rw [show (15 : Int32) = i32 (15) from rfl]); (try rw [show (16 : Int32) = i32 (16) from rfl]); (try rw [show (45 : Int32) = i32 (45) from rfl]); (try rw [show (59 : Int32) = i32 (59) from rfl]); (try simp only [i32_add, i32_sub, i32_mul, i32_neg]))
    have T1 := hT.keep (f1 1 (by omega)) (f1 2 (by omega))
    have br := bt_rg hB z
    refine x_gI rfl (x_pI rfl ?_)
    rw [show I1 169 ((3 : Nat) : Int) = (z : Int) from a3, show ((4 : Nat) : Int) = 4 from rfl]
    have f2 : ∀ q, q ≠ 169 → (up I1 169 4 z) q = I q := fun q a => by rw [up_qf a, f1 q a]
    have b3 : (up I1 169 4 z) 169 3 = (z : Nat) := by rw [up_k (by omega)]; exact a3
    have b4 : (up I1 169 4 z) 169 4 = (z : Nat) := up_self
    have T2 : Tx (up I1 169 4 z) 1 2 l := T1.keep (up_qf (by omega)) (up_qf (by omega))
    generalize up I1 169 4 z = I2 at *
    have q2 : Qw I2 := fun i hi => by rw [f2 170 (by omega)]; exact hq i hi
    refine x_gR rfl rfl (x_gI rfl ?_)
    rw [show I2 169 ((3 : Nat) : Int) = (z : Int) from b3]
    refine x_ob rfl (x_cI (sp_X7_byteAt (n := 900) rfl rfl rfl T2 b900 (by omega) ⟨by omega, by omega⟩ ?_))
    rw [bt_ob (by omega)]
    refine x_cI (sp_X10_isLetter (by omega) ?_)
    by_cases c1 : isLt (bt l z) = true
    · rw [if_pos c1]
      rw [if_pos c1] at hQ
      have hz : z < l.length := by
        rcases Nat.lt_or_ge z l.length with h | h
        · exact h
        · rw [bt_end h] at c1; exact absurd c1 (by decide)
      refine x_eq (by omega) (by omega) (fun h => by omega) (fun _ => x_ob rfl (x_cV (sp_X8_readWord T2 hB q2 hz b3 b4 fun I3 f3 e2 e3 e4 e5 => x_rV (hQ I3 (fun q a => by rw [f3 q a, f2 q a]) ⟨e2, e3, e4, fun _ => e5, fun hk => ?_⟩))))
      have := kw_rg (nms l z (ru isLt l z - z))
      have hk : (if ru isLt l z - z ≤ 6 then kw (nms l z (ru isLt l z - z)) else 16) = 12 := hk
      split at hk <;> omega
    · rw [if_neg c1]
      rw [if_neg c1] at hQ
      refine x_eq (by omega) (by omega) (fun _ => x_cI (sp_X8_isDigit (by omega) ?_)) (fun h => absurd rfl h)
      by_cases c2 : isDg (bt l z) = true
      · rw [if_pos c2]
        rw [if_pos c2] at hQ
        have hz : z < l.length := by
          rcases Nat.lt_or_ge z l.length with h | h
          · exact h
          · rw [bt_end h] at c2; exact absurd c2 (by decide)
        refine x_eq (by omega) (by omega) (fun h => by omega) (fun _ => x_ob rfl (x_cV (sp_X8_readNumber T2 hB hz b3 b4 fun I3 f3 e2 e3 e4 e5 => x_rV (hQ I3 (fun q a => by rw [f3 q a, f2 q a]) ⟨e2, e3, e4, fun hk => ?_, fun _ => e5⟩))))
        have hk : (if ru isDg l z - z ≤ 5 then 12 else 16) = 11 := hk
        split at hk <;> omega
      · rw [if_neg c2]
        rw [if_neg c2] at hQ
        refine x_eq (by omega) (by omega) (fun _ => ?_) (fun h => absurd rfl h)
        refine x_eq (by omega) (by omega) (fun c3 => ?_) (fun c3 => ?_)
        · rw [if_pos c3] at hQ
          refine x_pI rfl (x_rV (hQ _ (fun q a => by rw [up_qf a, f2 q a]) ⟨by rw [show ((2 : Nat) : Int) = 2 from rfl, up_self]; rfl, by rw [up_k (by omega)]; exact b3, by rw [up_k (by omega)]; exact b4, fun hk => absurd hk (by show ¬ (15 : Nat) = 11; omega), fun hk => absurd hk (by show ¬ (15 : Nat) = 12; omega)⟩))
        · rw [if_neg c3] at hQ
          -- one byte
          have one : ∀ K : Nat, K ≠ 11 → K ≠ 12 → (if bt l z = 45 then 13 else if bt l z = 59 then 14 else 16) = K → (pI 8 2 169 (i32 (K : Int)) <| gI 8 4 169 fun v9 => pI 8 4 169 (v9 + i32 1) <| rV) (ME e I2 J) Q := by
            intro K k1 k2 hK
            refine x_pI rfl (x_gI rfl ?_)
            rw [up_k (by omega), show I2 169 ((4 : Nat) : Int) = (z : Int) from b4, i32_add]
            refine x_pI rfl (x_rV (hQ _ (fun q a => by rw [up_qf a, up_qf a, f2 q a]) ⟨?_, ?_, ?_, fun hk => absurd hk ?_, fun hk => absurd hk ?_⟩))
            · rw [up_k (by omega), show ((2 : Nat) : Int) = 2 from rfl, up_self]
              show (K : Int) = ((if bt l z = 45 then 13 else if bt l z = 59 then 14 else 16 : Nat) : Int)
              rw [hK]
            · rw [up_k (by omega), up_k (by omega)]; exact b3
            · rw [show ((4 : Nat) : Int) = 4 from rfl, up_self]
              show (z : Int) + 1 = ((z + 1 : Nat) : Int)
              omega
            · show ¬ (if bt l z = 45 then 13 else if bt l z = 59 then 14 else 16) = 11
              rw [hK]; exact k1
            · show ¬ (if bt l z = 45 then 13 else if bt l z = 59 then 14 else 16) = 12
              rw [hK]; exact k2
          refine x_eq (by omega) (by omega) (fun c4 => one 13 (by omega) (by omega) (by rw [if_pos c4])) (fun c4 => x_eq (by omega) (by omega) (fun c5 => one 14 (by omega) (by omega) (by rw [if_neg c4, if_pos c5])) (fun c5 => one 16 (by omega) (by omega) (by rw [if_neg c4, if_neg c5])))
  refine x_for (z - p) (fun i av μ => ∃ I1 : IM, av = [.ref 169] ∧ μ = ME e I1 J ∧ (∀ q, q ≠ 169 → I1 q = I q) ∧ I1 169 3 = ((p + i : Nat) : Int)) ?_ ?_ (Nat.zero_le _) ⟨_, rfl, rfl, fun q a => by rw [up_qf a], by rw [up_self]; rfl⟩
  · rintro i av μ hi ⟨I1, rfl, rfl, g, g3⟩ hJ
    dsimp only [bX8_advance, bX8_advance_1]
    ((try rw [show (0 : Int32) = i32 (0) from rfl]); (try rw [show (1 : Int32) = i32 (1) from rfl]); (try simp only [i32_add, i32_sub, i32_mul, i32_neg]))
    have T1 := hT.keep (g 1 (by omega)) (g 2 (by omega))
    have hl := L.2.2.1 (p + i) (by omega) (by omega)
    have br := bt_rg hB (p + i)
    refine x_gI rfl (x_gR rfl rfl (x_gI rfl ?_))
    rw [show I1 169 ((3 : Nat) : Int) = ((p + i : Nat) : Int) from g3, show I1 1 ((1 : Nat) : Int) = (l.length : Int) from T1.1]
    refine x_le (by omega) (by omega) (fun h => by omega) (fun _ => x_gR rfl rfl (x_gR rfl rfl (x_gI rfl ?_)))
    rw [show I1 169 ((3 : Nat) : Int) = ((p + i : Nat) : Int) from g3]
    refine t_at T1 (by omega) hB (x_cI (sp_X8_isBlank (by omega) ?_))
    rw [if_pos hl]
    refine x_eq (by omega) (by omega) (fun h => by omega) (fun _ => x_gI rfl ?_)
    rw [show I1 169 ((3 : Nat) : Int) = ((p + i : Nat) : Int) from g3, i32_add]
    refine x_pI rfl (hJ _ _ ⟨_, rfl, rfl, fun q a => by rw [up_qf a, g q a], ?_⟩)
    rw [show ((3 : Nat) : Int) = 3 from rfl, up_self]; omega
  · rintro av μ ⟨I1, rfl, rfl, g, g3⟩
    dsimp only [bX8_advance, bX8_advance_1]
    ((try rw [show (0 : Int32) = i32 (0) from rfl]); (try rw [show (1 : Int32) = i32 (1) from rfl]); (try simp only [i32_add, i32_sub, i32_mul, i32_neg]))
    have T1 := hT.keep (g 1 (by omega)) (g 2 (by omega))
    rw [show p + (z - p) = z by omega] at g3
    have fn := fin I1 g g3
    refine x_gI rfl (x_gR rfl rfl (x_gI rfl ?_))
    rw [show I1 169 ((3 : Nat) : Int) = (z : Int) from g3, show I1 1 ((1 : Nat) : Int) = (l.length : Int) from T1.1]
    refine x_le (by omega) (by omega) (fun _ => fn) (fun h => x_gR rfl rfl (x_gR rfl rfl (x_gI rfl ?_)))
    rw [show I1 169 ((3 : Nat) : Int) = (z : Int) from g3]
    have br := bt_rg hB z
    refine t_at T1 (by omega) hB (x_cI (sp_X8_isBlank (by omega) ?_))
    rw [if_neg (by rw [L.2.2.2]; decide)]
    exact x_eq (by omega) (by omega) (fun _ => fn) (fun h => absurd rfl h)
theorem sp_X8_restart (hT : Tx I 1 2 l) (hB : By l) (hq : Qw I)
    (hQ : ∀ I' : IM, (∀ q, q ≠ 169 → I' q = I q) → Tc I' (tk l 0) → Q (.inl none) (ME e I' J)) : SX8_restart [.ref 169] (ME e I J) Q := by
  refine x_in (Nat.le_of_ble_eq_true rfl) ?_
  dsimp only [bX8_restart, bX8_restart_0]
  ((try rw [show (0 : Int32) = i32 (0) from rfl]); (try simp only [i32_add, i32_sub, i32_mul, i32_neg]))
  refine x_pI rfl (x_ob rfl (x_cV (sp_X8_advance (p := 0) (hT.keep (up_qf (by omega)) (up_qf (by omega))) hB (fun i hi => by rw [up_q (by omega)]; exact hq i hi) (Nat.zero_le _) (by rw [show ((4 : Nat) : Int) = 4 from rfl, up_self]; rfl) fun I1 f1 t1 => x_rV (hQ I1 (fun q a => by rw [f1 q a, up_qf a]) t1))))
end Tok60
