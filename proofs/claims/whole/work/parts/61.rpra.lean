/-! ===== the reference's words ===== -/
/-- the class's keyword for the reference's, and back -/
def cpK (n : Nat) : Nat := [6, 8, 9, 10, 7, 0, 2, 1, 3, 4, 5].getD n 11
def rpK (n : Nat) : Nat := [5, 7, 6, 8, 9, 10, 0, 4, 1, 2, 3].getD n 11
def rwL (n : Nat) : List Nat := kwL (cpK n)
def sK (n : Nat) : Nat := [0, 7, 12, 17, 23, 29, 34, 40, 43, 48, 53, 58].getD n 0
def wch (k : Nat) : Int := ((scByt.getD 11 []).getD k 0).toInt
theorem wch_ok : ∀ n, n < 11 → sK (n + 1) = sK n + (rwL n).length + 1 ∧ sK (n + 1) ≤ 58 ∧ (rwL n).length ≤ 6 ∧ wch (sK n + (rwL n).length) = 32 ∧ ∀ i, i < 6 → i < (rwL n).length → wch (sK n + i) = 96 + ((rwL n).getD i 0 : Nat) ∧ 1 ≤ (rwL n).getD i 0 ∧ (rwL n).getD i 0 ≤ 26 := by decide +kernel
theorem cp_rp : ∀ n, n < 11 → cpK n < 11 ∧ rpK n < 11 ∧ rpK (cpK n) = n ∧ cpK (rpK n) = n := by decide +kernel
theorem kwL_inj : ∀ n, n < 11 → ∀ m, m < 11 → kwL n = kwL m → n = m := by decide +kernel
def rwf (w : List Nat) : Nat → Nat
  | 0 => 11
  | k + 1 => if rwf w k = 11 then (if rwL k = w then k else 11) else rwf w k
theorem rwf_rg (w : List Nat) : ∀ k, k ≤ 11 → rwf w k = 11 ∨ (rwf w k < k ∧ rwL (rwf w k) = w) := by
  intro k
  induction k with
  | zero => intro _; exact Or.inl rfl
  | succ k ih =>
    intro h
    simp only [rwf]
    rcases ih (by omega) with h1 | h1
    · rw [if_pos h1]
      by_cases h2 : rwL k = w
      · rw [if_pos h2]; exact Or.inr ⟨by omega, h2⟩
      · rw [if_neg h2]; exact Or.inl rfl
    · rw [if_neg (by omega)]; exact Or.inr ⟨by omega, h1.2⟩
theorem rwf_no {w : List Nat} : ∀ {k}, rwf w k = 11 → k ≤ 11 → ∀ n, n < k → rwL n ≠ w := by
  intro k
  induction k with
  | zero => intro _ _ n h; omega
  | succ k ih =>
    intro h hk n hn
    simp only [rwf] at h
    by_cases h1 : rwf w k = 11
    · rw [if_pos h1] at h
      by_cases h2 : rwL k = w
      · rw [if_pos h2] at h; omega
      · by_cases h3 : n = k
        · rw [h3]; exact h2
        · exact ih h1 (by omega) n (by omega)
    · rw [if_neg h1] at h; exact absurd h h1
theorem kwf_no {w : List Nat} : ∀ {k}, kwf w k = 11 → k ≤ 11 → ∀ n, n < k → kwL n ≠ w := by
  intro k
  induction k with
  | zero => intro _ _ n h; omega
  | succ k ih =>
    intro h hk n hn
    simp only [kwf] at h
    by_cases h1 : kwf w k = 11
    · rw [if_pos h1] at h
      by_cases h2 : kwL k = w
      · rw [if_pos h2] at h; omega
      · by_cases h3 : n = k
        · rw [h3]; exact h2
        · exact ih h1 (by omega) n (by omega)
    · rw [if_neg h1] at h; exact absurd h h1
theorem rwf_kw (w : List Nat) : (if rwf w 11 = 11 then (-1 : Int) else rwf w 11) = if kw w < 11 then (rpK (kw w) : Int) else -1 := by
  have hk := kw_rg w
  rcases rwf_rg w 11 (Nat.le_refl _) with h | h
  · rw [if_pos h]
    by_cases h2 : kw w < 11
    · have h3 := kwf_eq w 11 (Nat.le_refl _) h2
      have h4 := cp_rp (kw w) h2
      exact absurd (show rwL (rpK (kw w)) = w by unfold rwL; rw [h4.2.2.2]; exact h3) (rwf_no h (Nat.le_refl _) _ h4.2.1)
    · rw [if_neg h2]
  · rw [if_neg (by omega)]
    have h4 := cp_rp _ h.1
    by_cases h2 : kw w < 11
    · rw [if_pos h2]
      have h3 := kwf_eq w 11 (Nat.le_refl _) h2
      have h5 := kwL_inj (cpK (rwf w 11)) h4.1 (kw w) h2 (by have := h.2; unfold rwL at this; rw [this]; exact h3.symm)
      rw [← h5, h4.2.2.1]
    · exact absurd (show kwL (cpK (rwf w 11)) = w from h.2) (kwf_no (show kwf w 11 = 11 by unfold kw at *; omega) (Nat.le_refl _) _ h4.1)
/-- the common beginning -/
def cmn : List Nat → List Nat → Nat
  | x :: xs, y :: ys => if x = y then cmn xs ys + 1 else 0
  | _, _ => 0
theorem cmn_ok : ∀ a b : List Nat, cmn a b ≤ a.length ∧ cmn a b ≤ b.length ∧ (∀ j, j < cmn a b → a.getD j 0 = b.getD j 0) ∧ (cmn a b < a.length → cmn a b < b.length → a.getD (cmn a b) 0 ≠ b.getD (cmn a b) 0) ∧ (cmn a b = a.length → cmn a b = b.length → a = b) := by
  intro a
  induction a with
  | nil => intro b; cases b <;> simp [cmn]
  | cons x xs ih =>
    intro b
    cases b with
    | nil => simp [cmn]
    | cons y ys =>
      obtain ⟨h1, h2, h3, h4, h5⟩ := ih ys
      simp only [cmn]
      by_cases h : x = y
      · rw [if_pos h]
        refine ⟨by simp; omega, by simp; omega, fun j hj => ?_, fun g1 g2 => ?_, fun g1 g2 => ?_⟩
        · cases j with
          | zero => simpa using h
          | succ j => simpa using h3 j (by omega)
        · simp only [List.length_cons] at g1 g2
          simpa using h4 (by omega) (by omega)
        · simp only [List.length_cons] at g1 g2
          rw [h, h5 (by omega) (by omega)]
      · rw [if_neg h]
        exact ⟨by simp, by simp, fun j hj => absurd hj (Nat.not_lt_zero j), fun _ _ => by simpa using h, fun g1 _ => by simp at g1⟩
theorem nms_get (l : List Int) (s : Nat) : ∀ (n i : Nat), i < n → (nms l s n).getD i 0 = (bt l (s + i) - 96).toNat := by
  intro n
  induction n with
  | zero => intro i h; omega
  | succ n ih =>
    intro i h
    have ln := nms_len l s n
    simp only [nms, List.getD_eq_getElem?_getD]
    by_cases h2 : i < n
    · rw [List.getElem?_append_left (by omega)]
      have := ih i h2
      simpa [List.getD_eq_getElem?_getD] using this
    · obtain rfl : i = n := by omega
      rw [List.getElem?_append_right (by omega), ln]
      simp
/-- the reference's text while it reads -/
def Pt (I : IM) (l : List Int) : Prop := I 200 21 = l.length ∧ Ts I l ∧ By l
theorem sb_and : ∀ k : Nat, k < 256 → i32 (sb (k : Int)) &&& 255 = i32 (k : Int) := by decide +kernel
section Rp61
variable {e : Nat} {I J : IM} {Q : Post} {V : Vw} {H : Hw} {a b v : Int} {l : List Int}
theorem bt_in {k : Nat} (hB : By l) (hk : k < l.length) : 0 ≤ bt l k ∧ bt l k < 256 := by
  unfold bt
  rw [if_pos hk]
  exact hB.2 (l.getD k 0) (by rw [List.getD_eq_getElem?_getD, List.getElem?_eq_getElem hk]; exact List.getElem_mem hk)
theorem sp_X11_here (hP : Pt I l) {k : Nat} (hk : k ≤ l.length) (hQ : Q (.inl (some (.int (i32 (bt l k))))) (ME e I J)) : SX11_here [.ref 200, .int (i32 k)] (ME e I J) Q := by
  refine x_in (Nat.le_of_ble_eq_true rfl) ?_
  dsimp only [bX11_here, bX11_here_0]
  ((try rw [show (-1 : Int32) = i32 (-1) from rfl]); (try simp only [i32_add, i32_sub, i32_mul, i32_neg]))
  have b900 := hP.2.2.1
  refine x_gI rfl ?_
  rw [show I 200 ((21 : Nat) : Int) = (l.length : Int) from hP.1]
  refine x_le (by omega) (by omega) (fun h => x_rI ?_) (fun h => x_gR rfl rfl (x_aB (n := 900) rfl (Or.inl rfl) (by omega) (by omega) (by omega) ?_))
  · rw [bt_end (by omega)] at hQ; exact hQ
  · have r := bt_in hP.2.2 (k := k) (by omega)
    rw [hP.2.1 k (by omega)]
    have s := sb_and (bt l k).toNat (by omega)
    rw [Int.toNat_of_nonneg r.1] at s
    rw [s]
    exact x_rI hQ
theorem sp_X11_isLetter (hP : Pt I l) {k : Nat} (hk : k ≤ l.length) (hQ : Q (.inl (some (.int (i32 (if isLt (bt l k) = true then 1 else 0))))) (ME e I J)) : SX11_isLetter [.ref 200, .int (i32 k)] (ME e I J) Q := by
  refine x_in (Nat.le_of_ble_eq_true rfl) ?_
  dsimp only [bX11_isLetter, bX11_isLetter_0]
  have r := bt_rg hP.2.2 k
  refine x_ob rfl (x_cI (sp_X11_here hP hk ?_))
  dsimp only
  rw [i32_long (by omega) (by omega), show (97 : Int64) = i64 97 from rfl, show (122 : Int64) = i64 122 from rfl]
  refine x_cI (sp_X11_isIn (by omega) (by omega) (by omega) (x_rZ (by split <;> simp) ?_))
  by_cases h : isLt (bt l k) = true
  · rw [if_pos (isLt_iff.mp h)]; rwa [if_pos h] at hQ
  · rw [if_neg (fun q => h (isLt_iff.mpr q))]; rwa [if_neg h] at hQ
theorem x_ch {F : Int32 → Sem} {k : Nat} (hk : k < 58) (h : F (i32 (wch k)) (ME e I J) Q) : obS 2011 (cI SJ_charAt [.ref 2011, .int (i32 k)] F) (ME e I J) Q := by
  refine ⟨⟨11, by decide, rfl⟩, 11, k, by decide, hk, by rw [nI_i32], ?_⟩
  have : (scByt.getD 11 []).getD k 0 = i32 (wch k) := by unfold wch; rw [i32_of]
  rw [this]
  exact h
theorem sp_X11_wordHere (hP : Pt I l) {s z : Nat} (hs : I 200 23 = s) (hz : I 200 22 = z) (hsz : s ≤ z) (hzl : z ≤ ru isLt l s) (hsl : s ≤ l.length)
    (hQ : Q (.inl (some (.int (i32 (if kw (nms l s (z - s)) < 11 then (rpK (kw (nms l s (z - s))) : Int) else -1))))) (ME e I J)) : SX11_wordHere [.ref 200] (ME e I J) Q := by
  refine x_in (Nat.le_of_ble_eq_true rfl) ?_
  dsimp only [bX11_wordHere, bX11_wordHere_0]
  ((try rw [show (0 : Int32) = i32 (0) from rfl]); (try simp only [i32_add, i32_sub, i32_mul, i32_neg]))
  have b900 := hP.2.2.1
  have L := ru_ok (P := isLt) hsl rfl
  have ln := nms_len l s (z - s)
  have ng := nms_get l s (z - s)
  rw [← rwf_kw] at hQ
  generalize nms l s (z - s) = w at *
  have g3 : I 200 ((23 : Nat) : Int) = (s : Int) := hs
  have g2 : I 200 ((22 : Nat) : Int) = (z : Int) := hz
  refine x_for 11 (fun n av μ => av = [.ref 200, .int (i32 n), .int (i32 (sK n : Nat))] ∧ μ = ME e I J ∧ rwf w n = 11) ?_ ?_ (Nat.zero_le _) ⟨rfl, rfl, rfl⟩
  · rintro n av μ hn ⟨rfl, rfl, hr⟩ hJ
    dsimp only [bX11_wordHere, bX11_wordHere_1]
    ((try rw [show (0 : Int32) = i32 (0) from rfl]); (try rw [show (-1 : Int32) = i32 (-1) from rfl]); (try simp only [i32_add, i32_sub, i32_mul, i32_neg]))
    obtain ⟨k1, k2, k3, k4, k5⟩ := wch_ok n hn
    obtain ⟨c1, c2, c3, c4, c5⟩ := cmn_ok (rwL n) w
    have hrs : rwf w (n + 1) = if rwL n = w then n else 11 := by simp only [rwf]; rw [if_pos hr]
    refine ⟨⟨11, by decide, rfl⟩, 11, by decide, rfl, ?_⟩
    dsimp only
    rw [nI_i32, show scLen.getD 11 0 = 58 from rfl]
    refine x_le (by omega) (by omega) (fun h => by omega) (fun _ => ?_)
    -- on to the next word
    have skip : rwL n ≠ w → fx bX11_wordHere 4 [.ref 200, .int (i32 n), .int (i32 (sK n : Nat))] (ME e I J) Q := by
      intro hne
      refine x_for (rwL n).length (fun i av μ => av = [.ref 200, .int (i32 n), .int (i32 ((sK n + i : Nat) : Int))] ∧ μ = ME e I J) ?_ ?_ (Nat.zero_le _) ⟨rfl, rfl⟩
      · rintro i av μ hi ⟨rfl, rfl⟩ hJ2
        dsimp only [bX11_wordHere, bX11_wordHere_4]
        ((try rw [show (1 : Int32) = i32 (1) from rfl]); (try rw [show (32 : Int32) = i32 (32) from rfl]); (try simp only [i32_add, i32_sub, i32_mul, i32_neg]))
        have k6 := k5 i (by omega) hi
        refine x_ch (by omega) ?_
        rw [k6.1]
        exact x_eq (by omega) (by omega) (fun h => by omega) (fun _ => x_lI (hJ2 _ _ ⟨rfl, rfl⟩))
      · rintro av μ ⟨rfl, rfl⟩
        dsimp only [bX11_wordHere, bX11_wordHere_4]
        ((try rw [show (1 : Int32) = i32 (1) from rfl]); (try rw [show (32 : Int32) = i32 (32) from rfl]); (try simp only [i32_add, i32_sub, i32_mul, i32_neg]))
        refine x_ch (by omega) ?_
        rw [k4]
        refine x_eq (by omega) (by omega) (fun _ => x_lI (x_lI (hJ _ _ ⟨?_, rfl, by rw [hrs, if_neg hne]⟩))) (fun h => absurd rfl h)
        rw [k1]; rfl
    refine x_for (cmn (rwL n) w) (fun i av μ => av = [.ref 200, .int (i32 n), .int (i32 (sK n : Nat)), .int (i32 i)] ∧ μ = ME e I J) ?_ ?_ (Nat.zero_le _) ⟨rfl, rfl⟩
    · rintro i av μ hi ⟨rfl, rfl⟩ hJ2
      dsimp only [bX11_wordHere, bX11_wordHere_2]
      ((try rw [show (1 : Int32) = i32 (1) from rfl]); (try rw [show (32 : Int32) = i32 (32) from rfl]); (try simp only [i32_add, i32_sub, i32_mul, i32_neg]))
      have k6 := k5 i (by omega) (by omega)
      have e6 := c3 i hi
      have g := ng i (by omega)
      have lt := isLt_iff.mp (L.2.2.1 (s + i) (by omega) (by omega))
      rw [show (sK n : Int) + i = ((sK n + i : Nat) : Int) by omega]
      refine x_ch (by omega) ?_
      rw [k6.1]
      refine x_eq (by omega) (by omega) (fun h => by omega) (fun _ => x_gI rfl (x_gI rfl ?_))
      rw [g3, g2, i32_add]
      refine x_le (by omega) (by omega) (fun h => by omega) (fun _ => x_gR rfl rfl (x_gI rfl ?_))
      rw [g3, i32_add, show (s : Int) + i = ((s + i : Nat) : Int) by omega]
      refine x_aB (n := 900) rfl (Or.inl rfl) (by omega) (by omega) (by omega) ?_
      rw [hP.2.1 (s + i) (by omega), show sb (bt l (s + i)) = bt l (s + i) by unfold sb; rw [if_pos (by omega)]]
      refine x_ch (by omega) ?_
      rw [k6.1]
      exact x_eq (by omega) (by omega) (fun _ => x_lI (hJ2 _ _ ⟨rfl, rfl⟩)) (fun h => by omega)
    · rintro av μ ⟨rfl, rfl⟩
      have fin : fx bX11_wordHere 3 [.ref 200, .int (i32 n), .int (i32 (sK n : Nat)), .int (i32 (cmn (rwL n) w : Nat))] (ME e I J) Q := by
        refine fx_in ?_
        dsimp only [bX11_wordHere, bX11_wordHere_3]
        ((try rw [show (1 : Int32) = i32 (1) from rfl]); (try rw [show (32 : Int32) = i32 (32) from rfl]); (try simp only [i32_add, i32_sub, i32_mul, i32_neg]))
        rw [show (sK n : Int) + (cmn (rwL n) w : Nat) = ((sK n + cmn (rwL n) w : Nat) : Int) by omega]
        refine x_ch (by omega) ?_
        by_cases hf : cmn (rwL n) w = (rwL n).length
        · have k4' : wch (sK n + cmn (rwL n) w) = 32 := by rw [hf]; exact k4
          rw [k4']
          refine x_eq (by omega) (by omega) (fun _ => x_gI rfl (x_gI rfl ?_)) (fun h => absurd rfl h)
          rw [g3, g2, i32_add]
          refine x_eq (by omega) (by omega) (fun h => x_rI ?_) (fun h => skip fun q => ?_)
          · have he := c5 hf (by omega)
            rw [if_pos he] at hrs
            have keep : ∀ k, n + 1 ≤ k → rwf w k = n := by
              intro k hk
              induction k with
              | zero => omega
              | succ k ih =>
                by_cases h2 : n = k
                · subst h2; exact hrs
                · simp only [rwf]; rw [ih (by omega), if_neg (by omega)]
            rw [keep 11 (by omega), if_neg (by omega)] at hQ
            exact hQ
          · rw [← q] at ln; omega
        · have k6 := k5 (cmn (rwL n) w) (by omega) (by omega)
          rw [k6.1]
          refine x_eq (by omega) (by omega) (fun h => by omega) (fun _ => skip fun q => ?_)
          have q2 : (rwL n).length = w.length := by rw [q]
          exact c4 (by omega) (by omega) (by rw [q])
      dsimp only [bX11_wordHere, bX11_wordHere_2]
      ((try rw [show (1 : Int32) = i32 (1) from rfl]); (try rw [show (32 : Int32) = i32 (32) from rfl]); (try simp only [i32_add, i32_sub, i32_mul, i32_neg]))
      rw [show (sK n : Int) + (cmn (rwL n) w : Nat) = ((sK n + cmn (rwL n) w : Nat) : Int) by omega]
      refine x_ch (by omega) ?_
      by_cases hf : cmn (rwL n) w = (rwL n).length
      · have k4' : wch (sK n + cmn (rwL n) w) = 32 := by rw [hf]; exact k4
        rw [k4']
        exact x_eq (by omega) (by omega) (fun _ => fin) (fun h => absurd rfl h)
      · have k6 := k5 (cmn (rwL n) w) (by omega) (by omega)
        rw [k6.1]
        refine x_eq (by omega) (by omega) (fun h => by omega) (fun _ => x_gI rfl (x_gI rfl ?_))
        rw [g3, g2, i32_add]
        refine x_le (by omega) (by omega) (fun h => fin) (fun h => x_gR rfl rfl (x_gI rfl ?_))
        have d := c4 (by omega) (by omega)
        have g := ng (cmn (rwL n) w) (by omega)
        have lt := isLt_iff.mp (L.2.2.1 (s + cmn (rwL n) w) (by omega) (by omega))
        rw [g3, i32_add, show (s : Int) + (cmn (rwL n) w : Nat) = ((s + cmn (rwL n) w : Nat) : Int) by omega]
        refine x_aB (n := 900) rfl (Or.inl rfl) (by omega) (by omega) (by omega) ?_
        rw [hP.2.1 (s + cmn (rwL n) w) (by omega), show sb (bt l (s + cmn (rwL n) w)) = bt l (s + cmn (rwL n) w) by unfold sb; rw [if_pos (by omega)]]
        refine x_ch (by omega) ?_
        rw [k6.1]
        exact x_eq (by omega) (by omega) (fun h => by omega) (fun _ => fin)
  · rintro av μ ⟨rfl, rfl, hr⟩
    dsimp only [bX11_wordHere, bX11_wordHere_1]
    ((try rw [show (0 : Int32) = i32 (0) from rfl]); (try rw [show (-1 : Int32) = i32 (-1) from rfl]); (try simp only [i32_add, i32_sub, i32_mul, i32_neg]))
    refine ⟨⟨11, by decide, rfl⟩, 11, by decide, rfl, ?_⟩
    dsimp only
    rw [nI_i32, show scLen.getD 11 0 = 58 from rfl]
    rw [if_pos hr] at hQ
    exact x_le (by omega) (by decide) (fun _ => x_rI hQ) (fun h => by have h : (58 : Int) < 58 := h; omega)
end Rp61
