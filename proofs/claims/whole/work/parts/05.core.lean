/-! ===== the tables' good words ===== -/
def gw : List Cond := lw_tbl.filter goodWord
theorem gw_in {w : Cond} (h : w ∈ lw_tbl) (g : goodWord w = true) : w ∈ gw := List.mem_filter.mpr ⟨h, g⟩
theorem gw_t {w : Cond} (i : Nat) (h : tables_1[i]? = some w) (g : goodWord w = true) : w ∈ gw := gw_in (List.mem_append_right _ (List.mem_of_getElem? h)) g
theorem gw_s {w : Cond} (i : Nat) (h : (k2_sels lw_privs)[i]? = some w) (g : goodWord w = true) : w ∈ gw := gw_in (List.mem_append_left _ (List.mem_of_getElem? h)) g
theorem gw_good : GoodIn gw gw := fun w h => ⟨h, good_of_word (List.mem_filter.mp h).2⟩
theorem gw_ws {w : Cond} (h : w ∈ gw) : GoodIn gw (w :: gw) := fun v hv => by
  rcases List.mem_cons.mp hv with rfl | hv
  · exact gw_good _ h
  · exact gw_good _ hv
/-- table words that aren't good ones, but move with the tables -/
def nw_ok : Cond → Bool
  | .methodLinkNest .. | .fieldLinkNest .. | .declares _ | .castable .. => true
  | _ => false
def NW (U : State) : Prop := ∀ w ∈ lw_tbl, nw_ok w = true → va_Nw w U
theorem nw_warm1 {w : Cond} (h : nw_ok w = true) {s U : State} (hW : s.WarmedH U.vm) (hZ : va_Nw w s) : va_Nw w U := by
  cases w <;> simp only [nw_ok] at h <;> first | exact absurd h (by decide) | exact va_Nw.warmM hW hZ | exact va_Nw.warmF hW hZ | exact va_Nw.warmD hW hZ | exact va_Nw.warmC hW hZ
theorem NW.warm {s U : State} (hW : s.WarmedH U.vm) (h : NW s) : NW U := fun w hw hg => nw_warm1 hg hW (h w hw hg)
theorem nw_onT {w : Cond} (h : nw_ok w = true) : w.onTables = true := by
  cases w <;> simp only [nw_ok] at h <;> first | exact absurd h (by decide) | rfl
theorem NW.same {s U : State} (hv : s.vm = U.vm) (h : NW s) : NW U := fun w hw hg => va_Nw.same (nw_onT hg) hv (h w hw hg)
/-! ===== memory, places, world ===== -/
abbrev Mem : Type := Nat × (Nat → Nat → Int32) × (Nat → Nat → Option Nat) × (Nat → Nat → Int64)
abbrev Res : Type := Option Value ⊕ Nat
abbrev Post : Type := Res → Mem → Prop
abbrev Sem : Type := Mem → Post → Prop
def stP : List (Nat × Nat) := [(0,6),(1,4),(1,12),(1,12),(1,12),(1,40),(1,40),(1,40),(1,40),(1,40),(1,40)]
def pkL : List (Nat × Nat) := [(0,10),(0,7),(1,900),(0,7),(1,400),(0,9),(1,12),(1,12)] ++ stP ++ stP ++ stP ++ [(0,3),(5,10)]
  ++ stP ++ stP ++ stP ++ stP ++ stP ++ stP ++ stP ++ stP ++ stP ++ stP
  ++ [(0,5),(0,9),(1,12),(1,12)] ++ stP ++ [(1,5),(0,8),(1,11)]
  ++ [(0,0),(1,40),(1,40),(1,40),(1,144),(1,40),(1,40),(1,40),(1,40),(1,40),(1,40),(1,40),(1,40),(1,40)]
  ++ [(0,1),(1,40),(1,40),(1,12),(1,144),(1,144)]
  ++ [(0,4),(1,40),(1,40),(1,40),(1,480),(1,40),(1,40)]
  ++ [(0,2),(1,12)]
  ++ [(0,11),(1,308),(1,308),(1,308),(1,308),(1,308),(1,3080),(1,66),(1,144),(1,144),(1,144),(3,144),(1,12),(1,12),(1,12),(2,900),(2,400)]
  ++ [(4,1)]
def NN : Nat := 218
theorem pkL_len : pkL.length = NN := by decide +kernel
def kd (q : Nat) : Nat × Nat := if q < 1000 then pkL.getD q (9, 0) else if q < 1003 then (6, 4) else (9, 0)
def stL : List (List Int32) := [[1, 0, -99, 0], [9999, 99, 99, 999], [1000, 0, 0, 10]]
def sI (q i : Nat) : Int32 := (stL.getD (q - 1000) []).getD i 0
def mI (μ : Mem) (q k : Nat) : Int32 := μ.2.1 q k
def mR (μ : Mem) (q k : Nat) : Option Nat := μ.2.2.1 q k
def mJ (μ : Mem) (q k : Nat) : Int64 := μ.2.2.2 q k
def wI (μ : Mem) (q k : Nat) (v : Int32) : Mem := (μ.1, fun q' k' => if q' = q ∧ k' = k then v else μ.2.1 q' k', μ.2.2)
def wR (μ : Mem) (q k : Nat) (v : Option Nat) : Mem := (μ.1, μ.2.1, fun q' k' => if q' = q ∧ k' = k then v else μ.2.2.1 q' k', μ.2.2.2)
def wJ (μ : Mem) (q k : Nat) (v : Int64) : Mem := (μ.1, μ.2.1, μ.2.2.1, fun q' k' => if q' = q ∧ k' = k then v else μ.2.2.2 q' k')
/-- one place more, all zero -/
def nwM (μ : Mem) : Mem := (μ.1 + 1, fun q' k' => if q' = μ.1 then 0 else μ.2.1 q' k', fun q' k' => if q' = μ.1 then none else μ.2.2.1 q' k', fun q' k' => if q' = μ.1 then 0 else μ.2.2.2 q' k')
def fty (ci : Nat) : Nat → FieldType := match ci with
  | 0 => tyX0 | 1 => tyX1 | 2 => tyX2 | 3 => tyX3 | 4 => tyX4 | 5 => tyX5 | 6 => tyX6 | 7 => tyX7 | 8 => tyX8 | 9 => tyX9 | 10 => tyX10 | _ => tyX11
def clT (ci : Nat) : u_T := match ci with
  | 0 => TX0 | 1 => TX1 | 2 => TX2 | 3 => TX3 | 4 => TX4 | 5 => TX5 | 6 => TX6 | 7 => TX7 | 8 => TX8 | 9 => TX9 | 10 => TX10 | _ => TX11
def clR (ci : Nat) : String := match ci with
  | 0 => RX0 | 1 => RX1 | 2 => RX2 | 3 => RX3 | 4 => RX4 | 5 => RX5 | 6 => RX6 | 7 => RX7 | 8 => RX8 | 9 => RX9 | 10 => RX10 | _ => RX11
def clN (ci : Nat) : Nat := [17, 7, 2, 3, 10, 7, 13, 2, 7, 3, 15, 32].getD ci 0
def isR : FieldType → Bool
  | .object _ => true
  | .array _ => true
  | _ => false
theorem vwCl_at {ci : Nat} (h : ci < 12) : vwCl[ci]? = some (clR ci, clT ci, clN ci) := by
  match ci, h with
  | 0, _ | 1, _ | 2, _ | 3, _ | 4, _ | 5, _ | 6, _ | 7, _ | 8, _ | 9, _ | 10, _ | 11, _ => rfl
  | n + 12, h => exact absurd h (by omega)
theorem clT_ok {ci : Nat} (h : ci < 12) : ∀ k, k < clN ci → parseFieldDescriptor (clT ci k).2.2.1 = some (fty ci k) := by
  match ci, h with
  | 0, _ => exact tyX0_ok
  | 1, _ => exact tyX1_ok
  | 2, _ => exact tyX2_ok
  | 3, _ => exact tyX3_ok
  | 4, _ => exact tyX4_ok
  | 5, _ => exact tyX5_ok
  | 6, _ => exact tyX6_ok
  | 7, _ => exact tyX7_ok
  | 8, _ => exact tyX8_ok
  | 9, _ => exact tyX9_ok
  | 10, _ => exact tyX10_ok
  | 11, _ => exact tyX11_ok
  | n + 12, h => exact absurd h (by omega)
theorem clT_nm {ci : Nat} (h : ci < 12) : ∀ a, a < clN ci → ∀ b, b < clN ci → a ≠ b → (clT ci a).2.1 ≠ (clT ci b).2.1 := by
  match ci, h with
  | 0, _ => exact nmX0
  | 1, _ => exact nmX1
  | 2, _ => exact nmX2
  | 3, _ => exact nmX3
  | 4, _ => exact nmX4
  | 5, _ => exact nmX5
  | 6, _ => exact nmX6
  | 7, _ => exact nmX7
  | 8, _ => exact nmX8
  | 9, _ => exact nmX9
  | 10, _ => exact nmX10
  | 11, _ => exact nmX11
  | n + 12, h => exact absurd h (by omega)
theorem clT_lay0 : ∀ ci, ci < 12 → ∀ w ∈ u_ws (clR ci) (clT ci) (clN ci), w ∈ lw_tbl ∧ goodWord w = true := by decide +kernel
theorem clT_lay {ci : Nat} (h : ci < 12) : ∀ w ∈ u_ws (clR ci) (clT ci) (clN ci), w ∈ gw := fun w hw => gw_in (clT_lay0 ci h w hw).1 (clT_lay0 ci h w hw).2
def conc (ad : Nat → Nat) : Value → Value
  | .ref k => .ref (ad k)
  | v => v
theorem conc_cat (ad : Nat → Nat) (v : Value) : (conc ad v).category = v.category := by cases v <;> rfl
def slotV (ad : Nat → Nat) (μ : Mem) (ci q k : Nat) : Value := if isR (fty ci k) = true then va_rf ((mR μ q k).map ad) else .int (mI μ q k)
def objF (ad : Nat → Nat) (μ : Mem) (ci q : Nat) : List Value := (List.range (clN ci)).map (slotV ad μ ci q)
def cellE (aC : Nat → ClassId) (ad : Nat → Nat) (μ : Mem) (q : Nat) : va_E := match kd q with
  | (0, ci) => .inr (ci, objF ad μ ci q)
  | (4, n) => .inl (aC 4, n, .inr (.inl (mJ μ q)))
  | (5, n) => .inl (aC 5, n, .inr (.inr (.inr (.inr (fun j => (mR μ q j).map ad)))))
  | (t, n) => .inl (aC t, n, .inl (mI μ q))
def wld (aC : Nat → ClassId) (ad : Nat → Nat) (μ : Mem) : va_W := (List.range μ.1).map fun q => (ad q, cellE aC ad μ q)
abbrev GT : Type := va_G × (Nat → ClassId) × (Nat → Nat)
def tysOf (aC : Nat → ClassId) : List (ClassId × FieldType) := [(aC 1, .int), (aC 2, .byte), (aC 3, .boolean), (aC 4, .long), (aC 5, .object "SpiritWall$State")]
abbrev GW (G : GT) (μ : Mem) : va_W := wld G.2.1 G.2.2 μ
def WldP (G : GT) (A : Nat → Prop) (μ : Mem) (U : State) (H : Heap) : Prop :=
  va_P G.1 vwCl (GW G μ) H ∧ va_K G.1 vwCl (tysOf G.2.1) U ∧ va_D A (GW G μ) ∧ (μ.1 < NN → H.size = G.2.2 μ.1)
theorem wld_at {aC : Nat → ClassId} {ad : Nat → Nat} {μ : Mem} {q : Nat} (h : q < μ.1) : (wld aC ad μ)[q]? = some (ad q, cellE aC ad μ q) := by
  simp [wld, h]
theorem wld_len {aC : Nat → ClassId} {ad : Nat → Nat} {μ : Mem} : (wld aC ad μ).length = μ.1 := by simp [wld]
theorem cellE_obj {aC : Nat → ClassId} {ad : Nat → Nat} {μ : Mem} {q ci : Nat} (h : kd q = (0, ci)) : cellE aC ad μ q = .inr (ci, objF ad μ ci q) := by
  simp [cellE, h]
theorem cellE_int {aC : Nat → ClassId} {ad : Nat → Nat} {μ : Mem} {q t n : Nat} (h : kd q = (t, n)) (h1 : t = 1 ∨ t = 2 ∨ t = 3) : cellE aC ad μ q = .inl (aC t, n, .inl (mI μ q)) := by
  rcases h1 with rfl | rfl | rfl <;> simp [cellE, h]
theorem cellE_long {aC : Nat → ClassId} {ad : Nat → Nat} {μ : Mem} {q n : Nat} (h : kd q = (4, n)) : cellE aC ad μ q = .inl (aC 4, n, .inr (.inl (mJ μ q))) := by
  simp [cellE, h]
theorem cellE_ref {aC : Nat → ClassId} {ad : Nat → Nat} {μ : Mem} {q n : Nat} (h : kd q = (5, n)) : cellE aC ad μ q = .inl (aC 5, n, .inr (.inr (.inr (.inr (fun j => (mR μ q j).map ad))))) := by
  simp [cellE, h]
theorem objF_at {ad : Nat → Nat} {μ : Mem} {ci q k : Nat} (h : k < clN ci) : (objF ad μ ci q)[k]? = some (slotV ad μ ci q k) := by
  simp [objF, h]
theorem objF_len {ad : Nat → Nat} {μ : Mem} {ci q : Nat} : (objF ad μ ci q).length = clN ci := by simp [objF]
/-- a world where one place changed -/
theorem wld_upd {aC : Nat → ClassId} {ad : Nat → Nat} {μ μ' : Mem} {q : Nat} {e : va_E} (hq : q < μ.1) (hn : μ'.1 = μ.1) (he : cellE aC ad μ' q = e) (ho : ∀ q', q' ≠ q → cellE aC ad μ' q' = cellE aC ad μ q') : (wld aC ad μ).set q (ad q, e) = wld aC ad μ' := by
  apply List.ext_getElem?
  intro i
  rw [List.getElem?_set]
  by_cases hi : q = i
  · subst hi
    rw [if_pos rfl, if_pos (by rw [wld_len]; exact hq), wld_at (by rw [hn]; exact hq), he]
  · rw [if_neg hi]
    by_cases hl : i < μ.1
    · rw [wld_at hl, wld_at (by rw [hn]; exact hl), ho i (Ne.symm hi)]
    · have h1 : (wld aC ad μ)[i]? = none := by rw [List.getElem?_eq_none_iff, wld_len]; omega
      have h2 : (wld aC ad μ')[i]? = none := by rw [List.getElem?_eq_none_iff, wld_len, hn]; omega
      rw [h1, h2]
theorem mI_wI_ne {μ : Mem} {q k q' : Nat} {v : Int32} (h : q' ≠ q) : mI (wI μ q k v) q' = mI μ q' := by
  funext j; simp [mI, wI, h]
theorem mI_wI_self {μ : Mem} {q k : Nat} {v : Int32} : mI (wI μ q k v) q = upd (mI μ q) k v := by
  funext j; simp [mI, wI, upd]
theorem mR_wR_ne {μ : Mem} {q k q' : Nat} {v : Option Nat} (h : q' ≠ q) : mR (wR μ q k v) q' = mR μ q' := by
  funext j; simp [mR, wR, h]
theorem mJ_wJ_ne {μ : Mem} {q k q' : Nat} {v : Int64} (h : q' ≠ q) : mJ (wJ μ q k v) q' = mJ μ q' := by
  funext j; simp [mJ, wJ, h]
theorem mJ_wJ_self {μ : Mem} {q k : Nat} {v : Int64} : mJ (wJ μ q k v) q = vp_updL (mJ μ q) k v := by
  funext j; simp [mJ, wJ, vp_updL]
theorem cellE_congr {aC : Nat → ClassId} {ad : Nat → Nat} {μ μ' : Mem} {q : Nat} (h1 : mI μ' q = mI μ q) (h2 : mR μ' q = mR μ q) (h3 : mJ μ' q = mJ μ q) : cellE aC ad μ' q = cellE aC ad μ q := by
  have h : ∀ ci, objF ad μ' ci q = objF ad μ ci q := fun ci => by simp [objF, slotV, h1, h2]
  simp only [cellE, h, h1, h2, h3]
theorem wld_wI_obj {aC : Nat → ClassId} {ad : Nat → Nat} {μ : Mem} {q ci k : Nat} {v : Int32} (hk : kd q = (0, ci)) (hq : q < μ.1) (hr : isR (fty ci k) = false) :
    (wld aC ad μ).set q (ad q, .inr (ci, (objF ad μ ci q).set k (.int v))) = wld aC ad (wI μ q k v) := by
  refine wld_upd hq rfl ?_ (fun q' h => cellE_congr (mI_wI_ne h) rfl rfl)
  rw [cellE_obj hk]
  congr 2
  apply List.ext_getElem?
  intro j
  rw [List.getElem?_set]
  by_cases hj : j < clN ci
  · rw [objF_at hj]
    by_cases e : k = j
    · subst e
      rw [if_pos rfl, if_pos (by rw [objF_len]; exact hj)]
      simp [slotV, hr, mI, wI]
    · rw [if_neg e, objF_at hj]
      simp [slotV, mI, wI, mR, Ne.symm e]
  · have h2 : (objF ad (wI μ q k v) ci q)[j]? = none := by rw [List.getElem?_eq_none_iff, objF_len]; omega
    have h1 : (objF ad μ ci q)[j]? = none := by rw [List.getElem?_eq_none_iff, objF_len]; omega
    rw [h2, h1]
    by_cases e : k = j
    · rw [if_pos e, if_neg (by rw [objF_len]; omega)]
    · rw [if_neg e]
theorem wld_wR_obj {aC : Nat → ClassId} {ad : Nat → Nat} {μ : Mem} {q ci k : Nat} {v : Option Nat} (hk : kd q = (0, ci)) (hq : q < μ.1) (hr : isR (fty ci k) = true) :
    (wld aC ad μ).set q (ad q, .inr (ci, (objF ad μ ci q).set k (va_rf (v.map ad)))) = wld aC ad (wR μ q k v) := by
  refine wld_upd hq rfl ?_ (fun q' h => cellE_congr rfl (mR_wR_ne h) rfl)
  rw [cellE_obj hk]
  congr 2
  apply List.ext_getElem?
  intro j
  rw [List.getElem?_set]
  by_cases hj : j < clN ci
  · rw [objF_at hj]
    by_cases e : k = j
    · subst e
      rw [if_pos rfl, if_pos (by rw [objF_len]; exact hj)]
      simp [slotV, hr, mR, wR]
    · rw [if_neg e, objF_at hj]
      simp [slotV, mI, wR, mR, Ne.symm e]
  · have h2 : (objF ad (wR μ q k v) ci q)[j]? = none := by rw [List.getElem?_eq_none_iff, objF_len]; omega
    have h1 : (objF ad μ ci q)[j]? = none := by rw [List.getElem?_eq_none_iff, objF_len]; omega
    rw [h2, h1]
    by_cases e : k = j
    · rw [if_pos e, if_neg (by rw [objF_len]; omega)]
    · rw [if_neg e]
theorem wld_wI_arr {aC : Nat → ClassId} {ad : Nat → Nat} {μ : Mem} {q t n k : Nat} {v : Int32} (hk : kd q = (t, n)) (ht : t = 1 ∨ t = 2 ∨ t = 3) (hq : q < μ.1) :
    (wld aC ad μ).set q (ad q, .inl (aC t, n, .inl (upd (mI μ q) k v))) = wld aC ad (wI μ q k v) := by
  refine wld_upd hq rfl ?_ (fun q' h => cellE_congr (mI_wI_ne h) rfl rfl)
  rw [cellE_int hk ht, mI_wI_self]
theorem wld_wJ_arr {aC : Nat → ClassId} {ad : Nat → Nat} {μ : Mem} {q n k : Nat} {v : Int64} (hk : kd q = (4, n)) (hq : q < μ.1) :
    (wld aC ad μ).set q (ad q, .inl (aC 4, n, .inr (.inl (vp_updL (mJ μ q) k v)))) = wld aC ad (wJ μ q k v) := by
  refine wld_upd hq rfl ?_ (fun q' h => cellE_congr rfl rfl (mJ_wJ_ne h))
  rw [cellE_long hk, mJ_wJ_self]
