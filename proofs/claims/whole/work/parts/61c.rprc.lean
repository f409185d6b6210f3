/-! ===== the reference behind a fault ===== -/
def Bd (I : IM) (c s : Nat) : Prop := I 200 27 = c ∧ I 200 28 = s ∧ 1 ≤ c ∧ c ≤ 5
theorem x_eqN {Q : Post} {x y : Int32} {f g : Sem} {μ : Mem} (h1 : x = y → f μ Q) (h2 : ¬ x = y → g μ Q) : br (x = y) f g μ Q := ⟨h1, h2⟩
section Bd61
variable {e : Nat} {I J : IM} {Q : Post} {V : Vw} {H : Hw} {lo hi : Int} {c s : Nat} {x y : Int32}
theorem bd_fine (h : Bd I c s) (hQ : Q (.inl (some (.int (i32 0)))) (ME e I J)) : SX11_fine [.ref 200] (ME e I J) Q := by
  refine x_in (Nat.le_of_ble_eq_true rfl) ?_
  dsimp only [bX11_fine, bX11_fine_0]
  ((try rw [show (0 : Int32) = i32 (0) from rfl]); (try rw [show (1 : Int32) = i32 (1) from rfl]); (try simp only [i32_add, i32_sub, i32_mul, i32_neg]))
  have b := h.2.2
  refine x_gI rfl ?_
  rw [show I 200 ((27 : Nat) : Int) = (c : Int) from h.1]
  exact x_eq (by omega) (by omega) (fun h => by omega) (fun _ => x_rZ (by omega) hQ)
theorem bd_needs (h : Bd I c s) (hQ : Q (.inl none) (ME e I J)) : SX11_needs [.ref 200, .int x, .int y] (ME e I J) Q := by
  refine x_in (Nat.le_of_ble_eq_true rfl) ?_
  dsimp only [bX11_needs, bX11_needs_0]
  have b := h.2.2
  refine x_gI rfl ?_
  rw [show I 200 ((27 : Nat) : Int) = (c : Int) from h.1, show (0 : Int32) = i32 0 from rfl]
  exact x_eq (by omega) (by omega) (fun h => by omega) (fun _ => x_rV hQ)
theorem bd_goOn (h : Bd I c s) (hQ : Q (.inl none) (ME e I J)) : SX11_goOn [.ref 200] (ME e I J) Q := by
  refine x_in (Nat.le_of_ble_eq_true rfl) ?_
  dsimp only [bX11_goOn, bX11_goOn_0]
  ((try rw [show (0 : Int32) = i32 (0) from rfl]); (try simp only [i32_add, i32_sub, i32_mul, i32_neg]))
  exact x_ob rfl (x_cI (bd_fine h (x_eq (by omega) (by omega) (fun _ => x_rV hQ) (fun h => absurd rfl h))))
theorem bd_isWord (h : Bd I c s) (hQ : Q (.inl (some (.int (i32 0)))) (ME e I J)) : SX11_isWord [.ref 200, .int x] (ME e I J) Q := by
  refine x_in (Nat.le_of_ble_eq_true rfl) ?_
  dsimp only [bX11_isWord, bX11_isWord_0]
  ((try rw [show (0 : Int32) = i32 (0) from rfl]); (try simp only [i32_add, i32_sub, i32_mul, i32_neg]))
  exact x_ob rfl (x_cI (bd_fine h (x_eq (by omega) (by omega) (fun _ => x_rZ (by omega) hQ) (fun h => absurd rfl h))))
theorem bd_numberHere (h : Bd I c s) (hQ : ∀ z : Int32, Q (.inl (some (.int z))) (ME e I J)) : SX11_numberHere [.ref 200, .int x, .int y] (ME e I J) Q := by
  refine x_in (Nat.le_of_ble_eq_true rfl) ?_
  dsimp only [bX11_numberHere, bX11_numberHere_0]
  ((try rw [show (0 : Int32) = i32 (0) from rfl]); (try simp only [i32_add, i32_sub, i32_mul, i32_neg]))
  refine x_gI rfl (x_eqN (fun _ => ?_) (fun _ => ?_))
  · exact x_ob rfl (x_cV (bd_needs h (x_ob rfl (x_cI (bd_fine h (x_eq (by omega) (by omega) (fun _ => x_gI rfl (x_rI (hQ _))) (fun h => absurd rfl h)))))))
  · exact x_ob rfl (x_cV (bd_needs h (x_ob rfl (x_cI (bd_fine h (x_eq (by omega) (by omega) (fun _ => x_gI rfl (x_rI (hQ _))) (fun h => absurd rfl h)))))))
theorem bd_number (h : Bd I c s) (hQ : ∀ z : Int32, Q (.inl (some (.int z))) (ME e I J)) : SX11_number [.ref 200, .int x, .int y] (ME e I J) Q := by
  refine x_in (Nat.le_of_ble_eq_true rfl) ?_
  dsimp only [bX11_number, bX11_number_0]
  exact x_ob rfl (x_cI (bd_numberHere h fun z => x_ob rfl (x_cV (bd_goOn h (x_rI (hQ z))))))
theorem bd_signed (h : Bd I c s) (hlo : -1000000 ≤ lo ∧ lo ≤ 1000000) (hQ : ∀ z : Int32, Q (.inl (some (.int z))) (ME e I J)) : SX11_signed [.ref 200, .int (i32 lo), .int y] (ME e I J) Q := by
  refine x_in (Nat.le_of_ble_eq_true rfl) ?_
  dsimp only [bX11_signed, bX11_signed_0]
  refine x_ob rfl (x_cI (bd_fine h ?_))
  ((try rw [show (0 : Int32) = i32 (0) from rfl]); (try rw [show (1 : Int32) = i32 (1) from rfl]); (try simp only [i32_add, i32_sub, i32_mul, i32_neg]))
  refine x_brr (by trivial) (x_brr (by trivial) (fx_in ?_))
  dsimp only [bX11_signed, bX11_signed_1]
  ((try rw [show (0 : Int32) = i32 (0) from rfl]); (try rw [show (1 : Int32) = i32 (1) from rfl]); (try simp only [i32_add, i32_sub, i32_mul, i32_neg]))
  refine x_brr (by trivial) (x_cI (sp_J9_max_7cf53 (by omega) (by omega) ?_))
  exact x_brr (by trivial) (x_ob rfl (x_cI (bd_number h fun z => x_brr (by trivial) (x_rI (hQ z)))))
theorem bd_nameHere (h : Bd I c s) (hQ : Q (.inl (some (.int (i32 0)))) (ME e I J)) : SX11_nameHere [.ref 200] (ME e I J) Q := by
  refine x_in (Nat.le_of_ble_eq_true rfl) ?_
  dsimp only [bX11_nameHere, bX11_nameHere_0]
  ((try rw [show (0 : Int32) = i32 (0) from rfl]); (try simp only [i32_add, i32_sub, i32_mul, i32_neg]))
  have t : ∀ {z y : Int32} {F : Sem}, (ob 11 200 (cV SX11_needs [.ref 200, .int z, .int y] <| ob 11 200 (cI SX11_fine [.ref 200] fun v => br (v = i32 0) (rI (i32 0)) F))) (ME e I J) Q := by
    intro z y F
    exact x_ob rfl (x_cV (bd_needs h (x_ob rfl (x_cI (bd_fine h (x_eq (by omega) (by omega) (fun _ => x_rI hQ) (fun h => absurd rfl h)))))))
  refine x_gI rfl (x_eqN (fun _ => x_gI rfl (x_eqN (fun _ => x_gI rfl (x_gI rfl (x_br (fun _ => t) (fun _ => t)))) (fun _ => t))) (fun _ => t))
theorem bd_markHere (h : Bd I c s) (hQ : ∀ z : Int32, Q (.inl (some (.int z))) (ME e I J)) : SX11_markHere [.ref 200, .int x] (ME e I J) Q := by
  refine x_in (Nat.le_of_ble_eq_true rfl) ?_
  dsimp only [bX11_markHere, bX11_markHere_0]
  refine x_ob rfl (x_cI (bd_nameHere h (x_ob rfl (x_cI (bd_fine h ?_)))))
  ((try rw [show (0 : Int32) = i32 (0) from rfl]); (try simp only [i32_add, i32_sub, i32_mul, i32_neg]))
  refine x_brr (by trivial) (x_ob rfl (x_cI (bd_fine h (x_eq (by omega) (by omega) (fun _ => fx_in ?_) (fun h => absurd rfl h)))))
  dsimp only [bX11_markHere, bX11_markHere_1]
  exact x_eqN (fun _ => x_ob rfl (x_cV (bd_needs h (x_ob rfl (x_cV (bd_goOn h (x_rI (hQ _)))))))) (fun _ => x_ob rfl (x_cV (bd_needs h (x_ob rfl (x_cV (bd_goOn h (x_rI (hQ _))))))))
theorem bd_rm2 (h : Bd I c s) (hQ : Q (.inl none) (ME e I J)) : fx bX11_readsMark 2 [.ref 200, .int x, .int y, .int (i32 0)] (ME e I J) Q := by
  refine fx_in ?_
  dsimp only [bX11_readsMark, bX11_readsMark_2]
  rw [show (0 : Int32) = i32 0 from rfl]
  refine x_eq (by omega) (by omega) (fun _ => ?_) (fun h => absurd rfl h)
  exact x_ob rfl (x_cI (bd_fine h (x_eq (by omega) (by omega) (fun _ => x_rV hQ) (fun h => absurd rfl h))))
theorem bd_rm1 (h : Bd I c s) (hQ : Q (.inl none) (ME e I J)) : fx bX11_readsMark 1 [.ref 200, .int x] (ME e I J) Q := by
  refine fx_in ?_
  dsimp only [bX11_readsMark, bX11_readsMark_1]
  refine x_ob rfl (x_cV (bd_goOn h (x_ob rfl (x_cI (bd_numberHere h fun z => x_ob rfl (x_cI (bd_fine h ?_)))))))
  dsimp only
  rw [show (0 : Int32) = i32 0 from rfl]
  refine x_eq (by omega) (by omega) (fun _ => x_ob rfl (x_cV (bd_goOn h (x_ob rfl (x_cI (bd_isWord h ?_)))))) (fun h => absurd rfl h)
  exact x_eq (by omega) (by omega) (fun _ => bd_rm2 h hQ) (fun h => absurd rfl h)
theorem bd_rs1 {x1 x2 x3 x4 : Int32} (h : Bd I c s) (hQ : Q (.inl none) (ME e I J)) : fx bX11_readsSight 1 [.ref 200, .int x1, .int x2, .int x3, .int x4, .int (i32 0)] (ME e I J) Q := by
  refine fx_in ?_
  dsimp only [bX11_readsSight, bX11_readsSight_1]
  rw [show (0 : Int32) = i32 0 from rfl]
  refine x_eq (by omega) (by omega) (fun _ => ?_) (fun h => absurd rfl h)
  exact x_ob rfl (x_cI (bd_fine h (x_eq (by omega) (by omega) (fun _ => x_rV hQ) (fun h => absurd rfl h))))
end Bd61
/-! ===== the reference's reading, no fault yet ===== -/
def onB (o : Nat → Int) : Int := o 0 + 2 * o 1 + 4 * o 2 + 8 * o 3 + 16 * o 4
def PR (I : IM) (l : List Int) (V : Vw) (H : Hw) (o : Nat → Int) (t : Tk) : Prop := Pt I l ∧ Rrw I 201 0 V ∧ Rhr I 201 0 (vm V) H ∧ I 200 29 = onB o ∧ Tr I l t ∧ I 200 27 = 0 ∧ I 200 28 = -1
def FR (I I' : IM) : Prop := (∀ q, q ≠ 200 → q ≠ 201 → I' q = I q) ∧ ∀ k, k < 22 ∨ 29 < k → I' 200 k = I 200 k
theorem FR.trans {I I' I2 : IM} (h : FR I I') (h2 : FR I' I2) : FR I I2 := ⟨fun q a b => by rw [h2.1 q a b, h.1 q a b], fun k a => by rw [h2.2 k a, h.2 k a]⟩
theorem FR.refl (I : IM) : FR I I := ⟨fun _ _ _ => rfl, fun _ _ => rfl⟩
theorem Nx.fr {I I' : IM} (h : Nx I I') : FR I I' := ⟨fun q a _ => h.1 q a, fun k a => h.2 k (by omega)⟩
section Pr61
variable {e : Nat} {I J : IM} {Q : Post} {V : Vw} {H : Hw} {lo hi a b v : Int} {l : List Int} {o : Nat → Int} {t : Tk} {c s : Nat}
theorem PR.nx {I' : IM} {t' : Tk} (h : PR I l V H o t) (f : Nx I I') (ht : Tr I' l t') : PR I' l V H o t' := by
  obtain ⟨a1, a2, a3, a4, a5, a6, a7⟩ := h
  exact ⟨f.pt a1, a2.keep (f.1 201 (by omega)), a3.keep (f.1 201 (by omega)), by rw [f.2 29 (by omega)]; exact a4, ht, by rw [f.2 27 (by omega)]; exact a6, by rw [f.2 28 (by omega)]; exact a7⟩
theorem fn_fine (h : I 200 27 = 0) (hQ : Q (.inl (some (.int (i32 1)))) (ME e I J)) : SX11_fine [.ref 200] (ME e I J) Q := by
  refine x_in (Nat.le_of_ble_eq_true rfl) ?_
  dsimp only [bX11_fine, bX11_fine_0]
  ((try rw [show (0 : Int32) = i32 (0) from rfl]); (try rw [show (1 : Int32) = i32 (1) from rfl]); (try simp only [i32_add, i32_sub, i32_mul, i32_neg]))
  refine x_gI rfl ?_
  rw [show I 200 ((27 : Nat) : Int) = 0 from h]
  exact x_eq (by omega) (by omega) (fun _ => x_rZ (by omega) hQ) (fun h => absurd rfl h)
theorem fn_needs {y : Int32} (h : I 200 27 = 0) (hQ : Q (.inl none) (ME e I J)) : SX11_needs [.ref 200, .int (i32 1), .int y] (ME e I J) Q := by
  refine x_in (Nat.le_of_ble_eq_true rfl) ?_
  dsimp only [bX11_needs, bX11_needs_0]
  refine x_gI rfl ?_
  rw [show I 200 ((27 : Nat) : Int) = 0 from h, show (0 : Int32) = i32 0 from rfl]
  exact x_eq (by omega) (by omega) (fun _ => x_eq (by omega) (by omega) (fun h => by omega) (fun _ => x_rV hQ)) (fun h => absurd rfl h)
theorem fn_bad (h : PR I l V H o t) (hc : 1 ≤ c ∧ c ≤ 5) (hQ : ∀ I' : IM, FR I I' → Bd I' c (tS t) → Q (.inl none) (ME e I' J)) : SX11_needs [.ref 200, .int (i32 0), .int (i32 c)] (ME e I J) Q := by
  refine x_in (Nat.le_of_ble_eq_true rfl) ?_
  dsimp only [bX11_needs, bX11_needs_0]
  rw [show (0 : Int32) = i32 0 from rfl]
  obtain ⟨a1, a2, a3, a4, a5, a6, a7⟩ := h
  refine x_gI rfl ?_
  rw [show I 200 ((27 : Nat) : Int) = 0 from a6]
  refine x_eq (by omega) (by omega) (fun _ => x_eq (by omega) (by omega) (fun _ => x_pI rfl (x_gI rfl ?_)) (fun h => absurd rfl h)) (fun h => absurd rfl h)
  rw [up_k (by omega), show I 200 ((23 : Nat) : Int) = (tS t : Int) from a5.2.1]
  refine x_pI rfl (x_rV (hQ _ ⟨fun q a b => by rw [up_qf a, up_qf a], fun k a => by rw [up_k (by omega), up_k (by omega)]⟩ ⟨?_, ?_, hc⟩))
  · rw [up_k (by omega), show ((27 : Nat) : Int) = 27 from rfl, up_self]
  · rw [show ((28 : Nat) : Int) = 28 from rfl, up_self]
theorem fn_goOn (h : PR I l V H o t) (hT : okT l t) (hQ : ∀ I' : IM, Nx I I' → PR I' l V H o (nxt l t) → Q (.inl none) (ME e I' J)) : SX11_goOn [.ref 200] (ME e I J) Q := by
  refine x_in (Nat.le_of_ble_eq_true rfl) ?_
  dsimp only [bX11_goOn, bX11_goOn_0]
  rw [show (0 : Int32) = i32 0 from rfl]
  refine x_ob rfl (x_cI (fn_fine h.2.2.2.2.2.1 (x_eq (by omega) (by omega) (fun h => by omega) (fun _ => x_ob rfl (x_cV (sp_X11_next h.1 hT.f.2.1 h.2.2.2.2.1.1 fun I1 f1 t1 => x_rV (hQ I1 f1 (h.nx f1 t1))))))))
theorem Tr.bd (h : Tr I l t) (hk : tK t ≤ 16) : (I 200 24 = 0 ∧ tK t = 15) ∨ (I 200 24 = 1 ∧ tK t < 11 ∧ I 200 25 = rpK (tK t)) ∨ (I 200 24 = 1 ∧ I 200 25 = -1 ∧ tK t = 11) ∨ (I 200 24 = 1 ∧ I 200 25 = -1 ∧ tK t = 16 ∧ 6 < tE t - tS t) ∨ (I 200 24 = 2 ∧ tK t = 12) ∨ (I 200 24 = 3 ∧ tK t = 14) ∨ (I 200 24 = 4 ∧ tK t = 13) ∨ (I 200 24 = 5 ∧ tK t = 16) := by
  obtain ⟨_, _, h1, h2, h3, h4, h5, h6, h7⟩ := h
  rcases (show tK t < 11 ∨ tK t = 11 ∨ tK t = 12 ∨ tK t = 13 ∨ tK t = 14 ∨ tK t = 15 ∨ tK t = 16 by omega) with k | k | k | k | k | k | k
  · have := h1 k; exact Or.inr (Or.inl ⟨this.1, k, this.2⟩)
  · have := h2 k; exact Or.inr (Or.inr (Or.inl ⟨this.1, this.2.1, k⟩))
  · have := h3 k; exact Or.inr (Or.inr (Or.inr (Or.inr (Or.inl ⟨this.1, k⟩))))
  · have := h4 k; exact Or.inr (Or.inr (Or.inr (Or.inr (Or.inr (Or.inr (Or.inl ⟨this, k⟩))))))
  · have := h5 k; exact Or.inr (Or.inr (Or.inr (Or.inr (Or.inr (Or.inl ⟨this, k⟩)))))
  · have := h6 k; exact Or.inl ⟨this, k⟩
  · rcases h7 k with h | h
    · exact Or.inr (Or.inr (Or.inr (Or.inr (Or.inr (Or.inr (Or.inr ⟨h, k⟩))))))
    · exact Or.inr (Or.inr (Or.inr (Or.inl ⟨h.1, h.2.1, k, h.2.2⟩)))
theorem fn_isWord {w : Nat} (hw : w < 11) (h : PR I l V H o t) (hT : okT l t) (hQ : Q (.inl (some (.int (i32 (if tK t = cpK w then 1 else 0))))) (ME e I J)) : SX11_isWord [.ref 200, .int (i32 w)] (ME e I J) Q := by
  refine x_in (Nat.le_of_ble_eq_true rfl) ?_
  dsimp only [bX11_isWord, bX11_isWord_0]
  ((try rw [show (0 : Int32) = i32 (0) from rfl]); (try rw [show (1 : Int32) = i32 (1) from rfl]); (try simp only [i32_add, i32_sub, i32_mul, i32_neg]))
  have f := hT.f
  have b := Tr.bd h.2.2.2.2.1 f.2.2.1
  have cw := cp_rp w hw
  have g24 : ∀ x : Int, I 200 24 = x → I 200 ((24 : Nat) : Int) = x := fun x h => h
  have g25 : ∀ x : Int, I 200 25 = x → I 200 ((25 : Nat) : Int) = x := fun x h => h
  refine x_ob rfl (x_cI (fn_fine h.2.2.2.2.2.1 (x_eq (by omega) (by omega) (fun h => by omega) (fun _ => x_gI rfl ?_))))
  by_cases hk : tK t < 11
  · rcases b with b | b | b | b | b | b | b | b
    · omega
    · have ck := cp_rp (tK t) hk
      have kk := ck.2.1
      rw [g24 _ b.1]
      refine x_eq (by omega) (by omega) (fun _ => x_gI rfl ?_) (fun h => absurd rfl h)
      rw [g25 _ b.2.2]
      refine x_eq (by omega) (by omega) (fun h => x_rZ (by omega) ?_) (fun h => x_rZ (by omega) ?_)
      · rw [if_pos (by have : rpK (tK t) = w := by omega
                       rw [← this, ck.2.2.2])] at hQ
        exact hQ
      · rw [if_neg (fun q => h (by rw [q, cw.2.2.1]))] at hQ
        exact hQ
    · omega
    · omega
    · omega
    · omega
    · omega
    · omega
  · rw [if_neg (by omega)] at hQ
    rcases b with b | b | b | b | b | b | b | b
    · rw [g24 _ b.1]; exact x_eq (by omega) (by omega) (fun h => by omega) (fun _ => x_rZ (by omega) hQ)
    · omega
    · rw [g24 _ b.1]
      refine x_eq (by omega) (by omega) (fun _ => x_gI rfl ?_) (fun h => absurd rfl h)
      rw [g25 _ b.2.1]
      exact x_eq (by omega) (by omega) (fun h => by omega) (fun _ => x_rZ (by omega) hQ)
    · rw [g24 _ b.1]
      refine x_eq (by omega) (by omega) (fun _ => x_gI rfl ?_) (fun h => absurd rfl h)
      rw [g25 _ b.2.1]
      exact x_eq (by omega) (by omega) (fun h => by omega) (fun _ => x_rZ (by omega) hQ)
    · rw [g24 _ b.1]; exact x_eq (by omega) (by omega) (fun h => by omega) (fun _ => x_rZ (by omega) hQ)
    · rw [g24 _ b.1]; exact x_eq (by omega) (by omega) (fun h => by omega) (fun _ => x_rZ (by omega) hQ)
    · rw [g24 _ b.1]; exact x_eq (by omega) (by omega) (fun h => by omega) (fun _ => x_rZ (by omega) hQ)
    · rw [g24 _ b.1]; exact x_eq (by omega) (by omega) (fun h => by omega) (fun _ => x_rZ (by omega) hQ)
theorem tok24 (h : PR I l V H o t) (hT : okT l t) : ∃ x : Int, I 200 24 = x ∧ 0 ≤ x ∧ x ≤ 5 ∧ (x = 2 ↔ tK t = 12) ∧ (x = 3 ↔ tK t = 14) ∧ (x = 4 ↔ tK t = 13) ∧ (x = 0 ↔ tK t = 15) := by
  have b := Tr.bd h.2.2.2.2.1 hT.f.2.2.1
  refine ⟨_, rfl, ?_⟩
  rcases b with b | b | b | b | b | b | b | b <;> omega
theorem sp_X11_numberHere (hlo : -1000000 ≤ lo ∧ lo ≤ 1000000) (hhi : -1000000 ≤ hi ∧ hi ≤ 1000000) (h : PR I l V H o t) (hT : okT l t)
    (h1 : tK t = 12 → lo ≤ tV t → tV t ≤ hi → Q (.inl (some (.int (i32 (tV t))))) (ME e I J))
    (h2 : ∀ c : Nat, (tK t ≠ 12 ∧ c = 1 ∨ tK t = 12 ∧ (tV t < lo ∨ hi < tV t) ∧ c = 2) → ∀ (I' : IM) (z : Int32), FR I I' → Bd I' c (tS t) → Q (.inl (some (.int z))) (ME e I' J)) :
    SX11_numberHere [.ref 200, .int (i32 lo), .int (i32 hi)] (ME e I J) Q := by
  refine x_in (Nat.le_of_ble_eq_true rfl) ?_
  dsimp only [bX11_numberHere, bX11_numberHere_0]
  have k1 : (1 : Int32) = i32 1 := rfl
  have k0 : (0 : Int32) = i32 0 := rfl
  have k2 : (2 : Int32) = i32 2 := rfl
  rw [k2, k1, k0]
  have f := hT.f
  obtain ⟨x, e24, x0, x5, x2, _⟩ := tok24 h hT
  refine x_gI rfl ?_
  rw [show I 200 ((24 : Nat) : Int) = x from e24]
  have fine := h.2.2.2.2.2.1
  refine x_eq (by omega) (by omega) (fun hk => ?_) (fun hk => ?_)
  · have hk : tK t = 12 := by omega
    have tv := f.2.2.2.2.2 hk
    have g26 : I 200 ((26 : Nat) : Int) = tV t := (h.2.2.2.2.1.2.2.2.2.1 hk).2
    refine x_ob rfl (x_cV (fn_needs fine (x_ob rfl (x_cI (fn_fine fine (x_eq (by omega) (by omega) (fun h => by omega) (fun _ => x_gI rfl ?_)))))))
    rw [g26, i32_long (by omega) (by omega), i32_long (by omega) (by omega), i32_long (by omega) (by omega)]
    refine x_cI (sp_X11_isIn (by omega) (by omega) (by omega) ?_)
    by_cases hr : lo ≤ tV t ∧ tV t ≤ hi
    · rw [if_pos hr]
      refine x_ob rfl (x_cV (fn_needs fine (x_gI rfl ?_)))
      rw [g26]
      exact x_rI (h1 hk hr.1 hr.2)
    · rw [if_neg hr]
      exact x_ob rfl (x_cV (fn_bad (c := 2) h (by omega) fun I1 f1 b1 => x_gI rfl (x_rI (h2 2 (Or.inr ⟨hk, by omega, rfl⟩) I1 _ f1 b1))))
  · have hk : tK t ≠ 12 := by omega
    refine x_ob rfl (x_cV (fn_bad (c := 1) h (by omega) fun I1 f1 b1 => x_ob rfl (x_cI (bd_fine b1 (x_eq (by omega) (by omega) (fun _ => x_gI rfl (x_rI (h2 1 (Or.inl ⟨hk, rfl⟩) I1 _ f1 b1))) (fun h => absurd rfl h))))))
theorem sp_X11_number (hlo : -1000000 ≤ lo ∧ lo ≤ 1000000) (hhi : -1000000 ≤ hi ∧ hi ≤ 1000000) (h : PR I l V H o t) (hT : okT l t)
    (h1 : ∀ x, numb l t false lo hi = .inr x → ∀ I' : IM, FR I I' → PR I' l V H o x.2 → Q (.inl (some (.int (i32 x.1)))) (ME e I' J))
    (h2 : ∀ c s : Nat, numb l t false lo hi = .inl (c, s) → ∀ (I' : IM) (z : Int32), FR I I' → Bd I' c s → Q (.inl (some (.int z))) (ME e I' J)) :
    SX11_number [.ref 200, .int (i32 lo), .int (i32 hi)] (ME e I J) Q := by
  refine x_in (Nat.le_of_ble_eq_true rfl) ?_
  dsimp only [bX11_number, bX11_number_0]
  have eT : numT l t false = t := by simp [numT]
  have eV : numV l t false = tV t := by simp [numV]
  unfold numb at h1 h2
  rw [eT, eV] at h1 h2
  refine x_ob rfl (x_cI (sp_X11_numberHere hlo hhi h hT (fun hk ha hb => ?_) (fun c hc I1 z f1 b1 => ?_)))
  · rw [if_pos hk, if_pos ⟨ha, hb⟩] at h1
    exact x_ob rfl (x_cV (fn_goOn h hT fun I1 f1 p1 => x_rI (h1 _ rfl I1 f1.fr p1)))
  · refine x_ob rfl (x_cV (bd_goOn b1 (x_rI (h2 c _ ?_ I1 z f1 b1))))
    rcases hc with ⟨hk, rfl⟩ | ⟨hk, hr, rfl⟩
    · rw [if_neg hk]
    · rw [if_pos hk, if_neg (by omega)]
theorem sp_X11_signed (hlo : -1000000 ≤ lo ∧ lo ≤ 0) (hhi : 0 ≤ hi ∧ hi ≤ 1000000) (h : PR I l V H o t) (hT : okT l t)
    (h1 : ∀ x, numb l t true lo hi = .inr x → ∀ I' : IM, FR I I' → PR I' l V H o x.2 → Q (.inl (some (.int (i32 x.1)))) (ME e I' J))
    (h2 : ∀ c s : Nat, numb l t true lo hi = .inl (c, s) → ∀ (I' : IM) (z : Int32), FR I I' → Bd I' c s → Q (.inl (some (.int z))) (ME e I' J)) :
    SX11_signed [.ref 200, .int (i32 lo), .int (i32 hi)] (ME e I J) Q := by
  refine x_in (Nat.le_of_ble_eq_true rfl) ?_
  dsimp only [bX11_signed, bX11_signed_0]
  have k1 : (1 : Int32) = i32 1 := rfl
  have k0 : (0 : Int32) = i32 0 := rfl
  have k4 : (4 : Int32) = i32 4 := rfl
  rw [k4, k1, k0]
  have f := hT.f
  obtain ⟨x, e24, x0, x5, _, _, x4, _⟩ := tok24 h hT
  refine x_ob rfl (x_cI (fn_fine h.2.2.2.2.2.1 (x_eq (by omega) (by omega) (fun h => by omega) (fun _ => x_gI rfl ?_))))
  rw [show I 200 ((24 : Nat) : Int) = x from e24]
  unfold numb at h1 h2
  refine x_eq (by omega) (by omega) (fun hk => ?_) (fun hk => ?_)
  · have hk : tK t = 13 := by omega
    have eT : numT l t true = nxt l t := by simp [numT, hk]
    have eV : numV l t true = -tV (nxt l t) := by simp [numV, hk]
    rw [eT, eV] at h1 h2
    refine x_eq (by omega) (by omega) (fun h => by omega) (fun _ => x_ob rfl (x_cV (fn_goOn h hT fun I1 g1 p1 => fx_in ?_)))
    dsimp only [bX11_signed, bX11_signed_1]
    rw [k0]
    have T1 := hT.nxt
    have f1 := T1.f
    refine x_eq (by omega) (by omega) (fun h => by omega) (fun _ => x_eq (by omega) (by omega) (fun h => by omega) (fun _ => ?_))
    rw [i32_neg]
    have e2T : numT l (nxt l t) false = nxt l t := by simp [numT]
    have e2V : numV l (nxt l t) false = tV (nxt l t) := by simp [numV]
    refine x_ob rfl (x_cI (sp_X11_number (by omega) (by omega) p1 T1 (fun y hy I2 g2 p2 => ?_) (fun c s hy I2 z g2 b2 => ?_)))
    · refine x_eq (by omega) (by omega) (fun h => by omega) (fun _ => ?_)
      rw [i32_neg]
      unfold numb at hy
      rw [e2T, e2V] at hy
      by_cases c1 : tK (nxt l t) = 12
      · rw [if_pos c1] at hy h1
        by_cases c2 : 0 ≤ tV (nxt l t) ∧ tV (nxt l t) ≤ -lo
        · rw [if_pos c2] at hy
          rw [if_pos (by omega)] at h1
          injection hy with hy
          subst hy
          exact x_rI (h1 _ rfl I2 (g1.fr.trans g2) p2)
        · rw [if_neg c2] at hy; cases hy
      · rw [if_neg c1] at hy; cases hy
    · unfold numb at hy
      rw [e2T, e2V] at hy
      refine x_eq (by omega) (by omega) (fun h => by omega) (fun _ => x_rI (h2 c s ?_ I2 _ (g1.fr.trans g2) b2))
      rw [← hy]
      by_cases c1 : tK (nxt l t) = 12
      · have := f1.2.2.2.2.2 c1
        rw [if_pos c1, if_pos c1]
        by_cases c2 : 0 ≤ tV (nxt l t) ∧ tV (nxt l t) ≤ -lo
        · rw [if_pos c1, if_pos c2] at hy; cases hy
        · rw [if_neg c2, if_neg (by omega)]
      · rw [if_neg c1, if_neg c1]
  · have hk : tK t ≠ 13 := by omega
    have eT : numT l t true = t := by simp [numT, hk]
    have eV : numV l t true = tV t := by simp [numV, hk]
    rw [eT, eV] at h1 h2
    refine x_eq (by omega) (by omega) (fun _ => fx_in ?_) (fun h => absurd rfl h)
    dsimp only [bX11_signed, bX11_signed_1]
    rw [k0]
    have e2T : numT l t false = t := by simp [numT]
    have e2V : numV l t false = tV t := by simp [numV]
    refine x_eq (by omega) (by omega) (fun _ => x_cI (sp_J9_max_7cf53 (by omega) (by omega) ?_)) (fun h => absurd rfl h)
    dsimp only
    rw [show (if (0 : Int) < lo then lo else 0) = 0 by rw [if_neg (by omega)]]
    refine x_eq (by omega) (by omega) (fun _ => x_ob rfl (x_cI (sp_X11_number (by omega) (by omega) h hT (fun y hy I2 g2 p2 => ?_) (fun c s hy I2 z g2 b2 => ?_)))) (fun h => absurd rfl h)
    · refine x_eq (by omega) (by omega) (fun _ => ?_) (fun h => absurd rfl h)
      unfold numb at hy
      rw [e2T, e2V] at hy
      by_cases c1 : tK t = 12
      · rw [if_pos c1] at hy h1
        by_cases c2 : 0 ≤ tV t ∧ tV t ≤ hi
        · rw [if_pos c2] at hy
          rw [if_pos (by omega)] at h1
          injection hy with hy
          subst hy
          exact x_rI (h1 _ rfl I2 g2 p2)
        · rw [if_neg c2] at hy; cases hy
      · rw [if_neg c1] at hy; cases hy
    · unfold numb at hy
      rw [e2T, e2V] at hy
      refine x_eq (by omega) (by omega) (fun _ => x_rI (h2 c s ?_ I2 _ g2 b2)) (fun h => absurd rfl h)
      rw [← hy]
      by_cases c1 : tK t = 12
      · have := f.2.2.2.2.2 c1
        rw [if_pos c1, if_pos c1]
        by_cases c2 : 0 ≤ tV t ∧ tV t ≤ hi
        · rw [if_pos c1, if_pos c2] at hy; cases hy
        · rw [if_neg c2, if_neg (by omega)]
      · rw [if_neg c1, if_neg c1]
theorem sp_X11_nameHere (h : PR I l V H o t) (hT : okT l t)
    (h1 : tK t = 11 → Q (.inl (some (.int (i32 (enc 27 (tN t)))))) (ME e I J))
    (h2 : tK t ≠ 11 → ∀ I' : IM, FR I I' → Bd I' 1 (tS t) → Q (.inl (some (.int (i32 0)))) (ME e I' J)) : SX11_nameHere [.ref 200] (ME e I J) Q := by
  refine x_in (Nat.le_of_ble_eq_true rfl) ?_
  dsimp only [bX11_nameHere, bX11_nameHere_0]
  have k1 : (1 : Int32) = i32 1 := rfl
  have k0 : (0 : Int32) = i32 0 := rfl
  have k6 : (6 : Int32) = i32 6 := rfl
  have km : (-1 : Int32) = i32 (-1) := rfl
  rw [km, k6, k1, k0]
  have f := hT.f
  have fine := h.2.2.2.2.2.1
  have b900 := h.1.2.2.1
  have b := Tr.bd h.2.2.2.2.1 f.2.2.1
  have g22 : I 200 ((22 : Nat) : Int) = (tE t : Int) := h.2.2.2.2.1.1
  have g23 : I 200 ((23 : Nat) : Int) = (tS t : Int) := h.2.2.2.2.1.2.1
  have g24 : ∀ x : Int, I 200 24 = x → I 200 ((24 : Nat) : Int) = x := fun x h => h
  have g25 : ∀ x : Int, I 200 25 = x → I 200 ((25 : Nat) : Int) = x := fun x h => h
  have no : tK t ≠ 11 → ∀ {F : Sem}, (ob 11 200 (cV SX11_needs [.ref 200, .int (i32 0), .int (i32 1)] <| ob 11 200 (cI SX11_fine [.ref 200] fun v => br (v = i32 0) (rI (i32 0)) F))) (ME e I J) Q := by
    intro hk F
    exact x_ob rfl (x_cV (fn_bad (c := 1) h (by omega) fun I1 f1 b1 => x_ob rfl (x_cI (bd_fine b1 (x_eq (by omega) (by omega) (fun _ => x_rI (h2 hk I1 f1 b1)) (fun h => absurd rfl h))))))
  refine x_gI rfl ?_
  rcases b with b | b | b | b | b | b | b | b
  · rw [g24 _ b.1]; exact x_eq (by omega) (by omega) (fun h => by omega) (fun _ => no (by omega))
  · have ck := cp_rp (tK t) b.2.1
    rw [g24 _ b.1]
    refine x_eq (by omega) (by omega) (fun _ => x_gI rfl ?_) (fun h => absurd rfl h)
    rw [g25 _ b.2.2]
    exact x_eq (by omega) (by omega) (fun h => by omega) (fun _ => no (by omega))
  · have tr := h.2.2.2.2.1.2.2.2.1 b.2.2
    have ok := f.2.2.2.2.1 b.2.2
    rw [g24 _ b.1]
    refine x_eq (by omega) (by omega) (fun _ => x_gI rfl ?_) (fun h => absurd rfl h)
    rw [g25 _ b.2.1]
    refine x_eq (by omega) (by omega) (fun _ => x_gI rfl (x_gI rfl ?_)) (fun h => absurd rfl h)
    rw [g22, g23, i32_sub]
    refine x_lt (by omega) (by omega) (fun h => by omega) (fun _ => x_ob rfl (x_cV (fn_needs fine (x_ob rfl (x_cI (fn_fine fine (x_eq (by omega) (by omega) (fun h => by omega) (fun _ => x_gI rfl (x_gI rfl (x_gI rfl ?_))))))))))
    rw [g22, g23, i32_sub, show (tE t : Int) - (tS t : Int) = ((tE t - tS t : Nat) : Int) by omega]
    refine x_ob rfl (x_cI (sp_X11_nameAt h.1.2.1 h.1.2.2 (by omega) ?_))
    have tl := ok.1
    rw [tr.2.2.2.1, nms_len] at tl
    rw [if_pos (by omega)]
    refine x_rI ?_
    have := h1 b.2.2
    rw [tr.2.2.2.1] at this
    exact this
  · rw [g24 _ b.1]
    refine x_eq (by omega) (by omega) (fun _ => x_gI rfl ?_) (fun h => absurd rfl h)
    rw [g25 _ b.2.1]
    refine x_eq (by omega) (by omega) (fun _ => x_gI rfl (x_gI rfl ?_)) (fun h => absurd rfl h)
    rw [g22, g23, i32_sub]
    exact x_lt (by omega) (by omega) (fun _ => no (by omega)) (fun h => by omega)
  · rw [g24 _ b.1]; exact x_eq (by omega) (by omega) (fun h => by omega) (fun _ => no (by omega))
  · rw [g24 _ b.1]; exact x_eq (by omega) (by omega) (fun h => by omega) (fun _ => no (by omega))
  · rw [g24 _ b.1]; exact x_eq (by omega) (by omega) (fun h => by omega) (fun _ => no (by omega))
  · rw [g24 _ b.1]; exact x_eq (by omega) (by omega) (fun h => by omega) (fun _ => no (by omega))
theorem sp_X11_markHere {bt : Int} (hb : -1 ≤ bt ∧ bt < 12) (h : PR I l V H o t) (hG : GP l (V, H, o, t))
    (h1 : ∀ k, markN V t bt = .inr k → ∀ I' : IM, FR I I' → PR I' l V H o (nxt l t) → Q (.inl (some (.int (i32 k)))) (ME e I' J))
    (h2 : ∀ c s : Nat, markN V t bt = .inl (c, s) → ∀ (I' : IM) (z : Int32), FR I I' → Bd I' c s → Q (.inl (some (.int z))) (ME e I' J)) :
    SX11_markHere [.ref 200, .int (i32 bt)] (ME e I J) Q := by
  refine x_in (Nat.le_of_ble_eq_true rfl) ?_
  dsimp only [bX11_markHere, bX11_markHere_0]
  obtain ⟨gG, gGH, gHB, go, hT⟩ := hG
  dsimp only at gG gGH gHB go hT
  have m12 := gG.1
  have f := hT.f
  have fine := h.2.2.2.2.2.1
  have k1 : (1 : Int32) = i32 1 := rfl
  have k0 : (0 : Int32) = i32 0 := rfl
  have km : (-1 : Int32) = i32 (-1) := rfl
  have k3 : (3 : Int32) = i32 ((3 : Nat) : Int) := rfl
  have k4 : (4 : Int32) = i32 ((4 : Nat) : Int) := rfl
  unfold markN at h1 h2
  -- a fault told before the end
  have bad : ∀ (I1 : IM) (c s : Nat) (z : Int32), Bd I1 c s → (∀ z : Int32, Q (.inl (some (.int z))) (ME e I1 J)) → fx bX11_markHere 1 [.ref 200, .int z] (ME e I1 J) Q := by
    intro I1 c s z b1 hq
    refine fx_in ?_
    dsimp only [bX11_markHere, bX11_markHere_1]
    exact x_eqN (fun _ => x_ob rfl (x_cV (bd_needs b1 (x_ob rfl (x_cV (bd_goOn b1 (x_rI (hq _)))))))) (fun _ => x_ob rfl (x_cV (bd_needs b1 (x_ob rfl (x_cV (bd_goOn b1 (x_rI (hq _))))))))
  rw [km, k3, k1, k0]
  refine x_ob rfl (x_cI (sp_X11_nameHere h hT (fun hk => ?_) (fun hk I1 f1 b1 => ?_)))
  · rw [if_pos hk] at h1 h2
    have ok := f.2.2.2.2.1 hk
    have fr := fnN_rg V (tN t) (vm V)
    refine x_ob rfl (x_cI (fn_fine fine (x_eq (by omega) (by omega) (fun h => by omega) (fun _ => ?_))))
    refine x_ob rfl (x_cI (sp_X11_named gG.1 (fun k a b => gd_nm gG a b) h.2.1 ok ?_))
    refine x_ob rfl (x_cI (fn_fine fine (x_eq (by omega) (by omega) (fun h => by omega) (fun _ => ?_))))
    refine x_eq (by omega) (by omega) (fun c1 => ?_) (fun c1 => ?_)
    · rw [if_pos c1] at h2
      refine x_ob rfl (x_cV (fn_needs fine (fx_in ?_)))
      dsimp only [bX11_markHere, bX11_markHere_1]
      rw [km, k4, k1, k0]
      rw [c1]
      exact x_eq (by omega) (by omega) (fun _ => x_ob rfl (x_cV (fn_bad (c := 4) h (by omega) fun I1 f1 b1 => x_ob rfl (x_cV (bd_goOn b1 (x_rI (h2 4 _ rfl I1 _ f1 b1))))))) (fun h => absurd rfl h)
    · rw [if_neg c1] at h1 h2
      refine x_eq (by omega) (by omega) (fun c2 => ?_) (fun c2 => ?_)
      · rw [if_pos c2] at h2
        exact x_ob rfl (x_cV (fn_bad (c := 3) h (by omega) fun I1 f1 b1 => bad I1 3 _ _ b1 fun z => h2 3 _ rfl I1 z f1 b1))
      · rw [if_neg c2] at h1
        refine x_ob rfl (x_cV (fn_needs fine (fx_in ?_)))
        dsimp only [bX11_markHere, bX11_markHere_1]
        rw [km, k4, k1, k0]
        exact x_eq (by omega) (by omega) (fun h => absurd h c1) (fun _ => x_ob rfl (x_cV (fn_needs fine (x_ob rfl (x_cV (fn_goOn h hT fun I1 f1 p1 => x_rI (h1 _ rfl I1 f1.fr p1)))))))
  · rw [if_neg hk] at h2
    refine x_ob rfl (x_cI (bd_fine b1 (x_eq (by omega) (by omega) (fun _ => x_ob rfl (x_cI (bd_fine b1 (x_eq (by omega) (by omega) (fun _ => bad I1 1 _ _ b1 fun z => h2 1 _ rfl I1 z f1 b1) (fun h => absurd rfl h))))) (fun h => absurd rfl h))))
theorem sp_X11_isPlaceOf (hG : Good V) (hW : Rrw I 201 0 V) (hv : -2147483648 ≤ v ∧ v < 2147483648) (hQ : Q (.inl (some (.int (i32 (if fnd (vK V 0) v (vm V) = -1 then 0 else 1))))) (ME e I J)) : SX11_isPlaceOf [.ref 200, .int (i32 v)] (ME e I J) Q := by
  refine x_in (Nat.le_of_ble_eq_true rfl) ?_
  dsimp only [bX11_isPlaceOf, bX11_isPlaceOf_0]
  have m := hG.1
  refine x_for (vm V) (fun i av μ => av = [.ref 200, .int (i32 v), .int (i32 i)] ∧ μ = ME e I J ∧ fnd (vK V 0) v i = -1) ?_ ?_ (Nat.zero_le _) ⟨rfl, rfl, rfl⟩
  · rintro i av μ hi ⟨rfl, rfl, hm⟩ hJ
    dsimp only [bX11_isPlaceOf, bX11_isPlaceOf_1]
    ((try rw [show (0 : Int32) = i32 (0) from rfl]); (try rw [show (1 : Int32) = i32 (1) from rfl]); (try simp only [i32_add, i32_sub, i32_mul, i32_neg]))
    have p := gd_pl hG (k := i) (by omega) (by omega)
    have hs : fnd (vK V 0) v (i + 1) = if vK V 0 i = v then (i : Int) else -1 := by simp only [fnd]; rw [if_neg (by omega)]
    refine x_ob rfl (x_cI (sp_X11_marks hW (x_le (by omega) (by omega) (fun h => by omega) (fun _ => x_ob rfl (x_cI (sp_X11_of (by omega) (by omega) (by omega) (by omega) ?_))))))
    rw [W_pl hW (by omega) (by omega)]
    refine x_eq (by omega) (by omega) (fun h => x_rZ (by omega) ?_) (fun h => hJ _ _ ⟨rfl, rfl, by rw [hs, if_neg h]⟩)
    rw [if_pos h] at hs
    rw [fnd_keep (K := i + 1) (by omega) (by omega), hs, if_neg (by omega)] at hQ
    exact hQ
  · rintro av μ ⟨rfl, rfl, hm⟩
    dsimp only [bX11_isPlaceOf, bX11_isPlaceOf_1]
    ((try rw [show (0 : Int32) = i32 (0) from rfl]); (try rw [show (1 : Int32) = i32 (1) from rfl]); (try simp only [i32_add, i32_sub, i32_mul, i32_neg]))
    rw [if_pos hm] at hQ
    exact x_ob rfl (x_cI (sp_X11_marks hW (x_le (by omega) (by omega) (fun _ => x_rZ (by omega) hQ) (fun h => by omega))))
end Pr61
