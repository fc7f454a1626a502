/-! ===== pure facts: single stores, loads by place, the gardens' shape ===== -/
def fs (σ : fh_S) (k j : Nat) (v : Int32) : fh_S := fh_row σ k (upd (σ k) j v)
theorem fs_at {σ : fh_S} {k j : Nat} {v : Int32} (a b : Nat) : fs σ k j v a b = if a = k then (if b = j then v else σ a b) else σ a b := by
  unfold fs fh_row upd
  by_cases h : a = k
  · subst h; simp
  · simp [h]
theorem fs_s {σ : fh_S} {k j : Nat} {v : Int32} : fs σ k j v k j = v := by simp [fs_at]
theorem fs_o {σ : fh_S} {k j a : Nat} {v : Int32} (h : a ≠ k) : fs σ k j v a = σ a := by unfold fs; exact fh_row_n h
theorem fs_ne {σ : fh_S} {k j a b : Nat} {v : Int32} (h : b ≠ j) : fs σ k j v a b = σ a b := by
  rw [fs_at]; simp [h]
theorem ld_ok {σ : fh_S} {k n j : Nat} (h : fh_arr k = some n) (hj : j < n) (hn : n < 1000) : fh_ld σ k (nI j) = some (σ k j) := by
  unfold fh_ld
  rw [h]
  simp only [Option.bind_some]
  rw [if_neg (nI_in hj (by omega)), nI_clamp (by omega)]
theorem st_ok {σ : fh_S} {k n j : Nat} {v : Int32} (h : fh_arr k = some n) (hj : j < n) (hn : n < 1000) : fh_st σ k (nI j) v = some (fs σ k j v) := by
  unfold fh_st
  rw [h]
  simp only [Option.bind_some]
  rw [if_neg (nI_in hj (by omega)), nI_clamp (by omega)]
  rfl
theorem bd_s {α β : Type} {x : α} {f : α → Option β} : (some x).bind f = f x := rfl
theorem rz1 {σ : fh_S} : fh_rz 1 σ = some (1, σ) := rfl
theorem rz0 {σ : fh_S} : fh_rz 0 σ = some (0, σ) := rfl
theorem jn_s {γ δ : Type} {k : γ} {f : γ → δ} : fh_jn k f = f k := rfl
theorem fx_s {ρ : Type} {bot : ρ} {b : ρ → ρ} {n : Nat} : fh_fx bot b (n + 1) = b (fh_fx bot b n) := rfl
theorem on_n {β : Type} {a : β} {f : Nat → β} : fh_on none a f = a := rfl
theorem on_s {β : Type} {a : β} {f : Nat → β} {k : Nat} : fh_on (some k) a f = f k := rfl
theorem ob_t {β : Type} {ci k : Nat} {x : Option β} (h : fh_isC ci k = true) : fh_ob ci k x = x := by unfold fh_ob; rw [if_pos h]
def fh_G (g : Nat) : Prop := g = 1 ∨ g = 11 ∨ g = 21
theorem isC_G {g : Nat} (hg : fh_G g) : fh_isC 0 g = true := by rcases hg with rfl | rfl | rfl <;> rfl
theorem ob_G {β : Type} {g : Nat} {x : Option β} (hg : fh_G g) : fh_ob 0 g x = x := ob_t (isC_G hg)
theorem ob_H {β : Type} {x : Option β} : fh_ob 4 0 x = x := ob_t rfl
theorem ob_M {β : Type} {x : Option β} : fh_ob 5 44 x = x := ob_t rfl
theorem ob_R {β : Type} {x : Option β} : fh_ob 1 33 x = x := ob_t rfl
theorem ob_T {β : Type} {x : Option β} : fh_ob 3 31 x = x := ob_t rfl
theorem gr_G0 {g : Nat} (hg : fh_G g) : fh_gr 0 g 0 = some (g + 1) := by rcases hg with rfl | rfl | rfl <;> rfl
theorem ar_G1 {g : Nat} (hg : fh_G g) : fh_arr (g + 1) = some 10 := by rcases hg with rfl | rfl | rfl <;> rfl
theorem ld_G1 {g j : Nat} {σ : fh_S} (hg : fh_G g) (hj : j < 10) : fh_ld σ (g + 1) (nI j) = some (σ (g + 1) j) := ld_ok (ar_G1 hg) hj (by omega)
theorem st_G1 {g j : Nat} {σ : fh_S} {v : Int32} (hg : fh_G g) (hj : j < 10) : fh_st σ (g + 1) (nI j) v = some (fs σ (g + 1) j v) := st_ok (ar_G1 hg) hj (by omega)
theorem gr_G1 {g : Nat} (hg : fh_G g) : fh_gr 0 g 1 = some (g + 2) := by rcases hg with rfl | rfl | rfl <;> rfl
theorem ar_G2 {g : Nat} (hg : fh_G g) : fh_arr (g + 2) = some 10 := by rcases hg with rfl | rfl | rfl <;> rfl
theorem ld_G2 {g j : Nat} {σ : fh_S} (hg : fh_G g) (hj : j < 10) : fh_ld σ (g + 2) (nI j) = some (σ (g + 2) j) := ld_ok (ar_G2 hg) hj (by omega)
theorem st_G2 {g j : Nat} {σ : fh_S} {v : Int32} (hg : fh_G g) (hj : j < 10) : fh_st σ (g + 2) (nI j) v = some (fs σ (g + 2) j v) := st_ok (ar_G2 hg) hj (by omega)
theorem gr_G2 {g : Nat} (hg : fh_G g) : fh_gr 0 g 2 = some (g + 3) := by rcases hg with rfl | rfl | rfl <;> rfl
theorem ar_G3 {g : Nat} (hg : fh_G g) : fh_arr (g + 3) = some 10 := by rcases hg with rfl | rfl | rfl <;> rfl
theorem ld_G3 {g j : Nat} {σ : fh_S} (hg : fh_G g) (hj : j < 10) : fh_ld σ (g + 3) (nI j) = some (σ (g + 3) j) := ld_ok (ar_G3 hg) hj (by omega)
theorem st_G3 {g j : Nat} {σ : fh_S} {v : Int32} (hg : fh_G g) (hj : j < 10) : fh_st σ (g + 3) (nI j) v = some (fs σ (g + 3) j v) := st_ok (ar_G3 hg) hj (by omega)
theorem gr_G3 {g : Nat} (hg : fh_G g) : fh_gr 0 g 3 = some (g + 4) := by rcases hg with rfl | rfl | rfl <;> rfl
theorem ar_G4 {g : Nat} (hg : fh_G g) : fh_arr (g + 4) = some 10 := by rcases hg with rfl | rfl | rfl <;> rfl
theorem ld_G4 {g j : Nat} {σ : fh_S} (hg : fh_G g) (hj : j < 10) : fh_ld σ (g + 4) (nI j) = some (σ (g + 4) j) := ld_ok (ar_G4 hg) hj (by omega)
theorem st_G4 {g j : Nat} {σ : fh_S} {v : Int32} (hg : fh_G g) (hj : j < 10) : fh_st σ (g + 4) (nI j) v = some (fs σ (g + 4) j v) := st_ok (ar_G4 hg) hj (by omega)
theorem gr_G4 {g : Nat} (hg : fh_G g) : fh_gr 0 g 4 = some (g + 5) := by rcases hg with rfl | rfl | rfl <;> rfl
theorem ar_G5 {g : Nat} (hg : fh_G g) : fh_arr (g + 5) = some 10 := by rcases hg with rfl | rfl | rfl <;> rfl
theorem ld_G5 {g j : Nat} {σ : fh_S} (hg : fh_G g) (hj : j < 10) : fh_ld σ (g + 5) (nI j) = some (σ (g + 5) j) := ld_ok (ar_G5 hg) hj (by omega)
theorem st_G5 {g j : Nat} {σ : fh_S} {v : Int32} (hg : fh_G g) (hj : j < 10) : fh_st σ (g + 5) (nI j) v = some (fs σ (g + 5) j v) := st_ok (ar_G5 hg) hj (by omega)
theorem gr_G5 {g : Nat} (hg : fh_G g) : fh_gr 0 g 5 = some (g + 6) := by rcases hg with rfl | rfl | rfl <;> rfl
theorem ar_G6 {g : Nat} (hg : fh_G g) : fh_arr (g + 6) = some 10 := by rcases hg with rfl | rfl | rfl <;> rfl
theorem ld_G6 {g j : Nat} {σ : fh_S} (hg : fh_G g) (hj : j < 10) : fh_ld σ (g + 6) (nI j) = some (σ (g + 6) j) := ld_ok (ar_G6 hg) hj (by omega)
theorem st_G6 {g j : Nat} {σ : fh_S} {v : Int32} (hg : fh_G g) (hj : j < 10) : fh_st σ (g + 6) (nI j) v = some (fs σ (g + 6) j v) := st_ok (ar_G6 hg) hj (by omega)
theorem gr_G6 {g : Nat} (hg : fh_G g) : fh_gr 0 g 6 = some (g + 7) := by rcases hg with rfl | rfl | rfl <;> rfl
theorem ar_G7 {g : Nat} (hg : fh_G g) : fh_arr (g + 7) = some 10 := by rcases hg with rfl | rfl | rfl <;> rfl
theorem ld_G7 {g j : Nat} {σ : fh_S} (hg : fh_G g) (hj : j < 10) : fh_ld σ (g + 7) (nI j) = some (σ (g + 7) j) := ld_ok (ar_G7 hg) hj (by omega)
theorem st_G7 {g j : Nat} {σ : fh_S} {v : Int32} (hg : fh_G g) (hj : j < 10) : fh_st σ (g + 7) (nI j) v = some (fs σ (g + 7) j v) := st_ok (ar_G7 hg) hj (by omega)
theorem gr_G7 {g : Nat} (hg : fh_G g) : fh_gr 0 g 7 = some (g + 8) := by rcases hg with rfl | rfl | rfl <;> rfl
theorem ar_G8 {g : Nat} (hg : fh_G g) : fh_arr (g + 8) = some 10 := by rcases hg with rfl | rfl | rfl <;> rfl
theorem ld_G8 {g j : Nat} {σ : fh_S} (hg : fh_G g) (hj : j < 10) : fh_ld σ (g + 8) (nI j) = some (σ (g + 8) j) := ld_ok (ar_G8 hg) hj (by omega)
theorem st_G8 {g j : Nat} {σ : fh_S} {v : Int32} (hg : fh_G g) (hj : j < 10) : fh_st σ (g + 8) (nI j) v = some (fs σ (g + 8) j v) := st_ok (ar_G8 hg) hj (by omega)
theorem gr_G8 {g : Nat} (hg : fh_G g) : fh_gr 0 g 8 = some (g + 9) := by rcases hg with rfl | rfl | rfl <;> rfl
theorem ar_G9 {g : Nat} (hg : fh_G g) : fh_arr (g + 9) = some 10 := by rcases hg with rfl | rfl | rfl <;> rfl
theorem ld_G9 {g j : Nat} {σ : fh_S} (hg : fh_G g) (hj : j < 10) : fh_ld σ (g + 9) (nI j) = some (σ (g + 9) j) := ld_ok (ar_G9 hg) hj (by omega)
theorem st_G9 {g j : Nat} {σ : fh_S} {v : Int32} (hg : fh_G g) (hj : j < 10) : fh_st σ (g + 9) (nI j) v = some (fs σ (g + 9) j v) := st_ok (ar_G9 hg) hj (by omega)
theorem gi_G9 {g : Nat} {σ : fh_S} (hg : fh_G g) : fh_gi σ 0 g 9 = some (σ g 9) := by rcases hg with rfl | rfl | rfl <;> rfl
theorem pf_G9 {g : Nat} {σ : fh_S} {v : Int32} (hg : fh_G g) : fh_pf σ 0 g 9 v = some (fs σ g 9 v) := by rcases hg with rfl | rfl | rfl <;> rfl
theorem gi_G10 {g : Nat} {σ : fh_S} (hg : fh_G g) : fh_gi σ 0 g 10 = some (σ g 10) := by rcases hg with rfl | rfl | rfl <;> rfl
theorem pf_G10 {g : Nat} {σ : fh_S} {v : Int32} (hg : fh_G g) : fh_pf σ 0 g 10 v = some (fs σ g 10 v) := by rcases hg with rfl | rfl | rfl <;> rfl
theorem gi_G11 {g : Nat} {σ : fh_S} (hg : fh_G g) : fh_gi σ 0 g 11 = some (σ g 11) := by rcases hg with rfl | rfl | rfl <;> rfl
theorem pf_G11 {g : Nat} {σ : fh_S} {v : Int32} (hg : fh_G g) : fh_pf σ 0 g 11 v = some (fs σ g 11 v) := by rcases hg with rfl | rfl | rfl <;> rfl
theorem gr_0_0 : fh_gr 4 0 0 = some 1 := rfl
theorem gr_0_1 : fh_gr 4 0 1 = some 11 := rfl
theorem gr_0_2 : fh_gr 4 0 2 = some 21 := rfl
theorem gr_0_3 : fh_gr 4 0 3 = some 31 := rfl
theorem gr_0_4 : fh_gr 4 0 4 = some 33 := rfl
theorem gr_0_5 : fh_gr 4 0 5 = some 34 := rfl
theorem gr_0_6 : fh_gr 4 0 6 = some 43 := rfl
theorem gi_0_7 {σ : fh_S} : fh_gi σ 4 0 7 = some (σ 0 7) := rfl
theorem pf_0_7 {σ : fh_S} {v : Int32} : fh_pf σ 4 0 7 v = some (fs σ 0 7 v) := rfl
theorem gr_31_0 : fh_gr 3 31 0 = some 32 := rfl
theorem gi_31_1 {σ : fh_S} : fh_gi σ 3 31 1 = some (σ 31 1) := rfl
theorem pf_31_1 {σ : fh_S} {v : Int32} : fh_pf σ 3 31 1 v = some (fs σ 31 1 v) := rfl
theorem gr_33_0 : fh_gr 1 33 0 = some 31 := rfl
theorem gi_33_1 {σ : fh_S} : fh_gi σ 1 33 1 = some (σ 33 1) := rfl
theorem pf_33_1 {σ : fh_S} {v : Int32} : fh_pf σ 1 33 1 v = some (fs σ 33 1 v) := rfl
theorem gi_33_2 {σ : fh_S} : fh_gi σ 1 33 2 = some (σ 33 2) := rfl
theorem pf_33_2 {σ : fh_S} {v : Int32} : fh_pf σ 1 33 2 v = some (fs σ 33 2 v) := rfl
theorem gi_33_3 {σ : fh_S} : fh_gi σ 1 33 3 = some (σ 33 3) := rfl
theorem pf_33_3 {σ : fh_S} {v : Int32} : fh_pf σ 1 33 3 v = some (fs σ 33 3 v) := rfl
theorem gi_33_4 {σ : fh_S} : fh_gi σ 1 33 4 = some (σ 33 4) := rfl
theorem pf_33_4 {σ : fh_S} {v : Int32} : fh_pf σ 1 33 4 v = some (fs σ 33 4 v) := rfl
theorem gi_33_5 {σ : fh_S} : fh_gi σ 1 33 5 = some (σ 33 5) := rfl
theorem pf_33_5 {σ : fh_S} {v : Int32} : fh_pf σ 1 33 5 v = some (fs σ 33 5 v) := rfl
theorem gr_44_0 : fh_gr 5 44 0 = some 45 := rfl
theorem gr_44_1 : fh_gr 5 44 1 = some 46 := rfl
theorem gr_44_2 : fh_gr 5 44 2 = some 47 := rfl
theorem gi_44_3 {σ : fh_S} : fh_gi σ 5 44 3 = some (σ 44 3) := rfl
theorem pf_44_3 {σ : fh_S} {v : Int32} : fh_pf σ 5 44 3 v = some (fs σ 44 3 v) := rfl
theorem gr_44_4 : fh_gr 5 44 4 = some 48 := rfl
theorem gr_44_5 : fh_gr 5 44 5 = some 49 := rfl
theorem gr_44_6 : fh_gr 5 44 6 = some 50 := rfl
theorem gi_44_7 {σ : fh_S} : fh_gi σ 5 44 7 = some (σ 44 7) := rfl
theorem pf_44_7 {σ : fh_S} {v : Int32} : fh_pf σ 5 44 7 v = some (fs σ 44 7 v) := rfl
theorem gi_44_8 {σ : fh_S} : fh_gi σ 5 44 8 = some (σ 44 8) := rfl
theorem pf_44_8 {σ : fh_S} {v : Int32} : fh_pf σ 5 44 8 v = some (fs σ 44 8 v) := rfl
theorem gi_44_9 {σ : fh_S} : fh_gi σ 5 44 9 = some (σ 44 9) := rfl
theorem pf_44_9 {σ : fh_S} {v : Int32} : fh_pf σ 5 44 9 v = some (fs σ 44 9 v) := rfl
theorem gi_44_10 {σ : fh_S} : fh_gi σ 5 44 10 = some (σ 44 10) := rfl
theorem pf_44_10 {σ : fh_S} {v : Int32} : fh_pf σ 5 44 10 v = some (fs σ 44 10 v) := rfl
theorem gi_44_11 {σ : fh_S} : fh_gi σ 5 44 11 = some (σ 44 11) := rfl
theorem pf_44_11 {σ : fh_S} {v : Int32} : fh_pf σ 5 44 11 v = some (fs σ 44 11 v) := rfl
theorem gi_44_12 {σ : fh_S} : fh_gi σ 5 44 12 = some (σ 44 12) := rfl
theorem pf_44_12 {σ : fh_S} {v : Int32} : fh_pf σ 5 44 12 v = some (fs σ 44 12 v) := rfl
theorem gr_44_13 : fh_gr 5 44 13 = some 51 := rfl
theorem gr_44_14 : fh_gr 5 44 14 = some 52 := rfl
theorem gi_44_15 {σ : fh_S} : fh_gi σ 5 44 15 = some (σ 44 15) := rfl
theorem pf_44_15 {σ : fh_S} {v : Int32} : fh_pf σ 5 44 15 v = some (fs σ 44 15 v) := rfl
theorem gi_44_16 {σ : fh_S} : fh_gi σ 5 44 16 = some (σ 44 16) := rfl
theorem pf_44_16 {σ : fh_S} {v : Int32} : fh_pf σ 5 44 16 v = some (fs σ 44 16 v) := rfl
theorem gr_44_17 : fh_gr 5 44 17 = some 53 := rfl
theorem gr_44_18 : fh_gr 5 44 18 = some 54 := rfl
theorem gr_44_19 : fh_gr 5 44 19 = some 55 := rfl
theorem gr_44_20 : fh_gr 5 44 20 = some 56 := rfl
theorem ar_32 : fh_arr 32 = some 120 := rfl
theorem ld_32 {j : Nat} {σ : fh_S} (hj : j < 120) : fh_ld σ 32 (nI j) = some (σ 32 j) := ld_ok ar_32 hj (by omega)
theorem st_32 {j : Nat} {σ : fh_S} {v : Int32} (hj : j < 120) : fh_st σ 32 (nI j) v = some (fs σ 32 j v) := st_ok ar_32 hj (by omega)
theorem ar_43 : fh_arr 43 = some 7 := rfl
theorem ld_43 {j : Nat} {σ : fh_S} (hj : j < 7) : fh_ld σ 43 (nI j) = some (σ 43 j) := ld_ok ar_43 hj (by omega)
theorem st_43 {j : Nat} {σ : fh_S} {v : Int32} (hj : j < 7) : fh_st σ 43 (nI j) v = some (fs σ 43 j v) := st_ok ar_43 hj (by omega)
theorem ar_45 : fh_arr 45 = some 73 := rfl
theorem ld_45 {j : Nat} {σ : fh_S} (hj : j < 73) : fh_ld σ 45 (nI j) = some (σ 45 j) := ld_ok ar_45 hj (by omega)
theorem st_45 {j : Nat} {σ : fh_S} {v : Int32} (hj : j < 73) : fh_st σ 45 (nI j) v = some (fs σ 45 j v) := st_ok ar_45 hj (by omega)
theorem ar_46 : fh_arr 46 = some 73 := rfl
theorem ld_46 {j : Nat} {σ : fh_S} (hj : j < 73) : fh_ld σ 46 (nI j) = some (σ 46 j) := ld_ok ar_46 hj (by omega)
theorem st_46 {j : Nat} {σ : fh_S} {v : Int32} (hj : j < 73) : fh_st σ 46 (nI j) v = some (fs σ 46 j v) := st_ok ar_46 hj (by omega)
theorem ar_47 : fh_arr 47 = some 73 := rfl
theorem ld_47 {j : Nat} {σ : fh_S} (hj : j < 73) : fh_ld σ 47 (nI j) = some (σ 47 j) := ld_ok ar_47 hj (by omega)
theorem st_47 {j : Nat} {σ : fh_S} {v : Int32} (hj : j < 73) : fh_st σ 47 (nI j) v = some (fs σ 47 j v) := st_ok ar_47 hj (by omega)
theorem ar_48 : fh_arr 48 = some 8 := rfl
theorem ld_48 {j : Nat} {σ : fh_S} (hj : j < 8) : fh_ld σ 48 (nI j) = some (σ 48 j) := ld_ok ar_48 hj (by omega)
theorem st_48 {j : Nat} {σ : fh_S} {v : Int32} (hj : j < 8) : fh_st σ 48 (nI j) v = some (fs σ 48 j v) := st_ok ar_48 hj (by omega)
theorem ar_49 : fh_arr 49 = some 10 := rfl
theorem ld_49 {j : Nat} {σ : fh_S} (hj : j < 10) : fh_ld σ 49 (nI j) = some (σ 49 j) := ld_ok ar_49 hj (by omega)
theorem st_49 {j : Nat} {σ : fh_S} {v : Int32} (hj : j < 10) : fh_st σ 49 (nI j) v = some (fs σ 49 j v) := st_ok ar_49 hj (by omega)
theorem ar_50 : fh_arr 50 = some 120 := rfl
theorem ld_50 {j : Nat} {σ : fh_S} (hj : j < 120) : fh_ld σ 50 (nI j) = some (σ 50 j) := ld_ok ar_50 hj (by omega)
theorem st_50 {j : Nat} {σ : fh_S} {v : Int32} (hj : j < 120) : fh_st σ 50 (nI j) v = some (fs σ 50 j v) := st_ok ar_50 hj (by omega)
theorem ar_52 : fh_arr 52 = some 720 := rfl
theorem ld_52 {j : Nat} {σ : fh_S} (hj : j < 720) : fh_ld σ 52 (nI j) = some (σ 52 j) := ld_ok ar_52 hj (by omega)
theorem st_52 {j : Nat} {σ : fh_S} {v : Int32} (hj : j < 720) : fh_st σ 52 (nI j) v = some (fs σ 52 j v) := st_ok ar_52 hj (by omega)
theorem ar_53 : fh_arr 53 = some 4 := rfl
theorem ld_53 {j : Nat} {σ : fh_S} (hj : j < 4) : fh_ld σ 53 (nI j) = some (σ 53 j) := ld_ok ar_53 hj (by omega)
theorem st_53 {j : Nat} {σ : fh_S} {v : Int32} (hj : j < 4) : fh_st σ 53 (nI j) v = some (fs σ 53 j v) := st_ok ar_53 hj (by omega)
theorem ar_54 : fh_arr 54 = some 4 := rfl
theorem ld_54 {j : Nat} {σ : fh_S} (hj : j < 4) : fh_ld σ 54 (nI j) = some (σ 54 j) := ld_ok ar_54 hj (by omega)
theorem st_54 {j : Nat} {σ : fh_S} {v : Int32} (hj : j < 4) : fh_st σ 54 (nI j) v = some (fs σ 54 j v) := st_ok ar_54 hj (by omega)
theorem ar_55 : fh_arr 55 = some 160 := rfl
theorem ld_55 {j : Nat} {σ : fh_S} (hj : j < 160) : fh_ld σ 55 (nI j) = some (σ 55 j) := ld_ok ar_55 hj (by omega)
theorem st_55 {j : Nat} {σ : fh_S} {v : Int32} (hj : j < 160) : fh_st σ 55 (nI j) v = some (fs σ 55 j v) := st_ok ar_55 hj (by omega)
theorem ar_56 : fh_arr 56 = some 40 := rfl
theorem ld_56 {j : Nat} {σ : fh_S} (hj : j < 40) : fh_ld σ 56 (nI j) = some (σ 56 j) := ld_ok ar_56 hj (by omega)
theorem st_56 {j : Nat} {σ : fh_S} {v : Int32} (hj : j < 40) : fh_st σ 56 (nI j) v = some (fs σ 56 j v) := st_ok ar_56 hj (by omega)
theorem ld_45_0 {σ : fh_S} : fh_ld σ 45 0 = some (σ 45 0) := ld_45 (j := 0) (by omega)
theorem st_45_0 {σ : fh_S} {v : Int32} : fh_st σ 45 0 v = some (fs σ 45 0 v) := st_45 (j := 0) (by omega)
theorem ld_45_1 {σ : fh_S} : fh_ld σ 45 1 = some (σ 45 1) := ld_45 (j := 1) (by omega)
theorem st_45_1 {σ : fh_S} {v : Int32} : fh_st σ 45 1 v = some (fs σ 45 1 v) := st_45 (j := 1) (by omega)
theorem ld_45_2 {σ : fh_S} : fh_ld σ 45 2 = some (σ 45 2) := ld_45 (j := 2) (by omega)
theorem st_45_2 {σ : fh_S} {v : Int32} : fh_st σ 45 2 v = some (fs σ 45 2 v) := st_45 (j := 2) (by omega)
/-! ===== tests ===== -/
def wb (a lo hi : Int32) : Int32 := if a < lo then 0 else if hi < a then 0 else 1
theorem c_isWithin {a lo hi : Int32} {σ : fh_S} : f_X4_isWithin a lo hi σ = some (wb a lo hi, σ) := by
  unfold f_X4_isWithin wb
  split
  · rfl
  · split <;> rfl
theorem r_within {a lo hi : Int32} {σ : fh_S} : f_X5_within a lo hi σ = some (wb a lo hi, σ) := by
  unfold f_X5_within wb
  split
  · rfl
  · split <;> rfl
theorem wb_or (a lo hi : Int32) : wb a lo hi = 0 ∨ (wb a lo hi = 1 ∧ lo ≤ a ∧ a ≤ hi) := by
  unfold wb
  split
  · exact Or.inl rfl
  · rename_i h1
    split
    · exact Or.inl rfl
    · rename_i h2
      exact Or.inr ⟨rfl, Int32.not_lt.mp h1, Int32.not_lt.mp h2⟩
theorem wb_rz {a lo hi : Int32} {σ : fh_S} : fh_rz (wb a lo hi) σ = some (wb a lo hi, σ) := by
  rcases wb_or a lo hi with h | ⟨h, -⟩ <;> rw [h] <;> rfl
/-- an int from 0 to h -/
theorem wb_nI {a : Int32} {h : Nat} (hh : h < 1000000) (e : wb a 0 (nI h) = 1) : ∃ j, j ≤ h ∧ a = nI j := by
  rcases wb_or a 0 (nI h) with q | ⟨-, q1, q2⟩
  · rw [q] at e; cases e
  · exact nI_of2 (nI_toInt (by omega)) (Int32.not_lt.mpr q1) q2
theorem ne01 : ¬ (1 : Int32) = 0 := by decide
theorem c_isKind {a : Int32} {σ : fh_S} : f_X4_isKind a σ = some (wb a 0 6, σ) := by
  unfold f_X4_isKind
  simp only [c_isWithin, fh_cb_s, wb_rz]
  rfl
theorem r_isKind {a : Int32} {σ : fh_S} : f_X5_isKind a σ = some (wb a 0 6, σ) := by
  unfold f_X5_isKind
  simp only [r_within, fh_cb_s, wb_rz]
theorem c_isHour {a : Int32} {σ : fh_S} : f_X4_isHour a σ = some (wb a 0 719, σ) := by
  unfold f_X4_isHour
  simp only [c_isWithin, fh_cb_s, wb_rz]
theorem r_isHour {a : Int32} {σ : fh_S} : f_X5_isHour a σ = some (wb a 0 719, σ) := by
  unfold f_X5_isHour
  simp only [r_within, fh_cb_s, wb_rz]
theorem c_isSpot {a : Int32} {σ : fh_S} : f_X4_isSpot a σ = some (wb a 0 9, σ) := by
  unfold f_X4_isSpot
  simp only [c_isWithin, fh_cb_s, wb_rz]
theorem r_isSpot {a : Int32} {σ : fh_S} : f_X5_isSpot a σ = some (wb a 0 9, σ) := by
  unfold f_X5_isSpot
  simp only [r_within, fh_cb_s, wb_rz]
theorem c_isSheet {a : Int32} {σ : fh_S} : f_X4_isSheet a σ = some (wb a 0 3, σ) := by
  unfold f_X4_isSheet
  simp only [c_isWithin, fh_cb_s, wb_rz]
theorem r_isSheet {a : Int32} {σ : fh_S} : f_X5_isSheet a σ = some (wb a 0 3, σ) := by
  unfold f_X5_isSheet
  simp only [r_within, fh_cb_s, wb_rz]
/-! ===== rows: what an image keeps, as the reference lays it ===== -/
abbrev fh_Rw : Type := Nat → Int32
def GR (g : Nat) (σ : fh_S) (ρ : fh_Rw) : Prop := σ g 9 = ρ 1 ∧ σ g 10 = ρ 0 ∧ σ g 11 = ρ 2 ∧ (∀ j, j < 10 → σ (g + 7) j = ρ (3 + j)) ∧ ∀ f, f < 6 → ∀ d, d < 10 → σ (g + 1 + f) d = ρ (13 + 6 * d + f)
theorem GR.f0 {g : Nat} {σ : fh_S} {ρ : fh_Rw} (h : GR g σ ρ) {d : Nat} (hd : d < 10) : σ (g + 1) d = ρ (13 + 6 * d + 0) := h.2.2.2.2 0 (by omega) d hd
theorem GR.f1 {g : Nat} {σ : fh_S} {ρ : fh_Rw} (h : GR g σ ρ) {d : Nat} (hd : d < 10) : σ (g + 2) d = ρ (13 + 6 * d + 1) := h.2.2.2.2 1 (by omega) d hd
theorem GR.f2 {g : Nat} {σ : fh_S} {ρ : fh_Rw} (h : GR g σ ρ) {d : Nat} (hd : d < 10) : σ (g + 3) d = ρ (13 + 6 * d + 2) := h.2.2.2.2 2 (by omega) d hd
theorem GR.f3 {g : Nat} {σ : fh_S} {ρ : fh_Rw} (h : GR g σ ρ) {d : Nat} (hd : d < 10) : σ (g + 4) d = ρ (13 + 6 * d + 3) := h.2.2.2.2 3 (by omega) d hd
theorem GR.f4 {g : Nat} {σ : fh_S} {ρ : fh_Rw} (h : GR g σ ρ) {d : Nat} (hd : d < 10) : σ (g + 5) d = ρ (13 + 6 * d + 4) := h.2.2.2.2 4 (by omega) d hd
theorem GR.f5 {g : Nat} {σ : fh_S} {ρ : fh_Rw} (h : GR g σ ρ) {d : Nat} (hd : d < 10) : σ (g + 6) d = ρ (13 + 6 * d + 5) := h.2.2.2.2 5 (by omega) d hd
/-- what holds of a row: n dials, TICK at most T -/
def RI (ρ : fh_Rw) (n T : Nat) : Prop := n ≤ 10 ∧ ρ 1 = nI n ∧ (∃ t, t ≤ T ∧ ρ 0 = nI t) ∧ (∀ j, j < 10 → ρ (3 + j) = -1 ∨ ∃ m, m < n ∧ ρ (3 + j) = nI m) ∧
  ∀ d, d < n → (∃ k, k < 7 ∧ ρ (13 + 6 * d + 0) = nI k) ∧ (∃ h, h < 720 ∧ ρ (13 + 6 * d + 1) = nI h) ∧ (∃ m, m < n ∧ ρ (13 + 6 * d + 2) = nI m) ∧ (-99 ≤ (ρ (13 + 6 * d + 3)).toInt ∧ (ρ (13 + 6 * d + 3)).toInt ≤ 99) ∧ (ρ (13 + 6 * d + 4) = 0 ∨ ρ (13 + 6 * d + 4) = 1) ∧ ∃ m, m < 10 ∧ ρ (13 + 6 * d + 5) = nI m
/-! ===== the reference's row ===== -/
theorem at_0 (d : Nat) : (13 : Int32) + 6 * nI d + 0 = nI (13 + 6 * d + 0) := by
  show nI 13 + nI 6 * nI d + nI 0 = _
  rw [pk_mul, nI_add, nI_add]
theorem r_is0 {d : Nat} {σ : fh_S} (hd : d < 10) : f_X5_dialIs 44 (nI d) 0 σ = some (σ 45 (13 + 6 * d + 0), σ) := by
  unfold f_X5_dialIs f_X5_at
  simp only [ob_M, gr_44_0, bd_s, fh_cb_s, at_0]
  rw [ld_45 (by omega), bd_s]
theorem at_1 (d : Nat) : (13 : Int32) + 6 * nI d + 1 = nI (13 + 6 * d + 1) := by
  show nI 13 + nI 6 * nI d + nI 1 = _
  rw [pk_mul, nI_add, nI_add]
theorem r_is1 {d : Nat} {σ : fh_S} (hd : d < 10) : f_X5_dialIs 44 (nI d) 1 σ = some (σ 45 (13 + 6 * d + 1), σ) := by
  unfold f_X5_dialIs f_X5_at
  simp only [ob_M, gr_44_0, bd_s, fh_cb_s, at_1]
  rw [ld_45 (by omega), bd_s]
theorem at_2 (d : Nat) : (13 : Int32) + 6 * nI d + 2 = nI (13 + 6 * d + 2) := by
  show nI 13 + nI 6 * nI d + nI 2 = _
  rw [pk_mul, nI_add, nI_add]
theorem r_is2 {d : Nat} {σ : fh_S} (hd : d < 10) : f_X5_dialIs 44 (nI d) 2 σ = some (σ 45 (13 + 6 * d + 2), σ) := by
  unfold f_X5_dialIs f_X5_at
  simp only [ob_M, gr_44_0, bd_s, fh_cb_s, at_2]
  rw [ld_45 (by omega), bd_s]
theorem at_3 (d : Nat) : (13 : Int32) + 6 * nI d + 3 = nI (13 + 6 * d + 3) := by
  show nI 13 + nI 6 * nI d + nI 3 = _
  rw [pk_mul, nI_add, nI_add]
theorem r_is3 {d : Nat} {σ : fh_S} (hd : d < 10) : f_X5_dialIs 44 (nI d) 3 σ = some (σ 45 (13 + 6 * d + 3), σ) := by
  unfold f_X5_dialIs f_X5_at
  simp only [ob_M, gr_44_0, bd_s, fh_cb_s, at_3]
  rw [ld_45 (by omega), bd_s]
theorem at_4 (d : Nat) : (13 : Int32) + 6 * nI d + 4 = nI (13 + 6 * d + 4) := by
  show nI 13 + nI 6 * nI d + nI 4 = _
  rw [pk_mul, nI_add, nI_add]
theorem r_is4 {d : Nat} {σ : fh_S} (hd : d < 10) : f_X5_dialIs 44 (nI d) 4 σ = some (σ 45 (13 + 6 * d + 4), σ) := by
  unfold f_X5_dialIs f_X5_at
  simp only [ob_M, gr_44_0, bd_s, fh_cb_s, at_4]
  rw [ld_45 (by omega), bd_s]
theorem at_5 (d : Nat) : (13 : Int32) + 6 * nI d + 5 = nI (13 + 6 * d + 5) := by
  show nI 13 + nI 6 * nI d + nI 5 = _
  rw [pk_mul, nI_add, nI_add]
theorem r_is5 {d : Nat} {σ : fh_S} (hd : d < 10) : f_X5_dialIs 44 (nI d) 5 σ = some (σ 45 (13 + 6 * d + 5), σ) := by
  unfold f_X5_dialIs f_X5_at
  simp only [ob_M, gr_44_0, bd_s, fh_cb_s, at_5]
  rw [ld_45 (by omega), bd_s]
theorem r_stopped {d : Nat} {σ : fh_S} (hd : d < 10) : f_X5_isStopped 44 (nI d) σ = some (if σ 45 (13 + 6 * d + 4) = 1 then 1 else 0, σ) := by
  unfold f_X5_isStopped
  rw [ob_M, r_is4 hd, fh_cb_s]
  split <;> rfl
/-! ===== pace ===== -/
def lt_ (g : Int32) : Int32 := if g ≤ 0 then g else g - 1
/-- pace by kind, ahead of moss -/
def pk_ (kind g sm tk : Int32) : Int32 := if kind = 1 then lt_ g else if kind = 2 then 2 * g else if kind = 3 then -2 * g else if kind = 4 then -2 * g + (if sm = 1 then 3 else 0) else if kind = 5 then g / 2 + (if tk - tk / 2 * 2 = 1 then (if g = 0 then 0 else 1) else 0) else if kind = 6 then lt_ (lt_ g) else g
def mn_ (a b : Int32) : Int32 := if b < a then b else a
def mx_ (a b : Int32) : Int32 := if a < b then b else a
def ab_ (a : Int32) : Int32 := if 0 ≤ a then a else -a
theorem j_min {a b : Int32} {σ : fh_S} : f_J9_min_7cf53 a b σ = some (mn_ a b, σ) := by
  unfold f_J9_min_7cf53 mn_
  split <;> rfl
theorem j_max {a b : Int32} {σ : fh_S} : f_J9_max_7cf53 a b σ = some (mx_ a b, σ) := by
  unfold f_J9_max_7cf53 mx_
  split <;> rfl
theorem j_abs {a : Int32} {σ : fh_S} : f_J9_abs_0f7a4 a σ = some (ab_ a, σ) := by
  unfold f_J9_abs_0f7a4 ab_
  split <;> rfl
def sl_ (v m : Int32) : Int32 := if v ≤ 0 then mn_ 0 (v + m) else mx_ 0 (v - m)
def li_ (x : Int32) : Int32 := mx_ (-99) (mn_ 99 x)
/-- what the class makes of v and moss -/
def slc_ (v m : Int32) : Int32 := if 0 ≤ v then mn_ (mx_ 0 (ab_ v - m)) 99 else -(mn_ (mx_ 0 (ab_ v - m)) 99)
def pl_ (ρ : fh_Rw) (d : Nat) : Int32 := if ρ (13 + 6 * d + 2) = nI d then ρ (13 + 6 * d + 3) else pk_ (ρ (13 + 6 * d + 0)) (ρ (13 + 6 * (ρ (13 + 6 * d + 2)).toNatClampNeg + 3)) (ρ (13 + 6 * (ρ (13 + 6 * d + 2)).toNatClampNeg + 4)) (ρ 0)
def pa_ (ρ : fh_Rw) (d : Nat) : Int32 := li_ (sl_ (pl_ ρ d) (ρ (13 + 6 * d + 5)))
theorem r_late {g : Int32} {σ : fh_S} : f_X5_late g σ = some (lt_ g, σ) := by
  unfold f_X5_late lt_
  split <;> rfl
theorem c_late {g : Int32} {σ : fh_S} : f_X0_lateOf g σ = some (lt_ g, σ) := by
  unfold f_X0_lateOf lt_
  split <;> rfl
theorem r_plain {d n T : Nat} {σ : fh_S} (hI : RI (σ 45) n T) (hd : d < n) : f_X5_plainPace 44 (nI d) σ = some (pl_ (σ 45) d, σ) := by
  obtain ⟨hn, h1, h0, hsp, hD⟩ := hI
  obtain ⟨-, -, ⟨m, hm, em⟩, -⟩ := hD d hd
  unfold f_X5_plainPace pl_
  rw [ob_M, r_is2 (by omega), fh_cb_s, em, r_is3 (by omega), fh_cb_s]
  have hmc : (nI m).toNatClampNeg = m := nI_clamp (by omega)
  rw [hmc]
  by_cases hmd : nI m = nI d
  · rw [if_pos hmd, if_pos hmd]
    have : m = d := (nI_eq (by omega) (by omega)).mp hmd
    rw [this]
  · rw [if_neg hmd, if_neg hmd, r_is0 (by omega), fh_cb_s]
    unfold pk_
    generalize σ 45 (13 + 6 * d + 0) = k
    generalize hg : σ 45 (13 + 6 * m + 3) = g
    by_cases k1 : k = 1
    · simp only [k1, if_true, r_late, fh_cb_s]
    · by_cases k2 : k = 2
      · simp [k2]
      · by_cases k3 : k = 3
        · simp [k3]
        · by_cases k4 : k = 4
          · simp only [k4, if_neg, r_stopped (show m < 10 by omega), fh_cb_s, jn_s, f_X5_plainPace_J129]
            by_cases hs : σ 45 (13 + 6 * m + 4) = 1
            · simp [hs]
            · simp [hs]
          · by_cases k5 : k = 5
            · simp only [k5, gr_44_0, bd_s, ld_45_0, jn_s, f_X5_plainPace_J101, f_X5_plainPace_J100]
              by_cases ht : σ 45 0 - σ 45 0 / 2 * 2 = 1
              · by_cases hz : g = 0
                · simp [ht, hz]
                · simp [ht, hz]
              · simp [ht]
            · by_cases k6 : k = 6
              · simp only [k6, r_late, fh_cb_s]
                simp
              · simp [k1, k2, k3, k4, k5, k6]
theorem r_pace {d n T : Nat} {σ : fh_S} (hI : RI (σ 45) n T) (hd : d < n) : f_X5_pace 44 (nI d) σ = some (pa_ (σ 45) d, σ) := by
  have hn := hI.1
  unfold f_X5_pace pa_
  rw [ob_M, r_plain hI hd, fh_cb_s, r_is5 (by omega), fh_cb_s]
  generalize pl_ (σ 45) d = v
  generalize σ 45 (13 + 6 * d + 5) = m
  simp only [jn_s, f_X5_pace_J34, j_min, j_max, fh_cb_s, sl_, li_]
  split <;> rfl
theorem mn_i (a b : Int32) : (mn_ a b).toInt = min a.toInt b.toInt := by
  unfold mn_
  split <;> rename_i h
  · rw [Int32.lt_iff_toInt_lt] at h; omega
  · rw [Int32.lt_iff_toInt_lt] at h; omega
theorem mx_i (a b : Int32) : (mx_ a b).toInt = max a.toInt b.toInt := by
  unfold mx_
  split <;> rename_i h
  · rw [Int32.lt_iff_toInt_lt] at h; omega
  · rw [Int32.lt_iff_toInt_lt] at h; omega
theorem sm_add {a b : Int32} (h1 : -1000000 ≤ a.toInt ∧ a.toInt ≤ 1000000) (h2 : -1000000 ≤ b.toInt ∧ b.toInt ≤ 1000000) : (a + b).toInt = a.toInt + b.toInt := by
  rw [Int32.toInt_add, Int.bmod_eq_of_le] <;> omega
theorem sm_sub {a b : Int32} (h1 : -1000000 ≤ a.toInt ∧ a.toInt ≤ 1000000) (h2 : -1000000 ≤ b.toInt ∧ b.toInt ≤ 1000000) : (a - b).toInt = a.toInt - b.toInt := by
  rw [Int32.toInt_sub, Int.bmod_eq_of_le] <;> omega
theorem sm_neg {a : Int32} (h1 : -1000000 ≤ a.toInt ∧ a.toInt ≤ 1000000) : (-a).toInt = -a.toInt := by
  rw [Int32.toInt_neg, Int.bmod_eq_of_le] <;> omega
theorem sm_mul {a b : Int32} (h1 : -1000 ≤ a.toInt ∧ a.toInt ≤ 1000) (h2 : b = 2 ∨ b = -2) : (b * a).toInt = b.toInt * a.toInt := by
  rcases h2 with rfl | rfl
  · rw [Int32.toInt_mul, Int.bmod_eq_of_le] <;> simp <;> omega
  · rw [Int32.toInt_mul, Int.bmod_eq_of_le] <;> simp <;> omega
theorem i_0 : (0 : Int32).toInt = 0 := rfl
theorem i_99 : (99 : Int32).toInt = 99 := rfl
theorem i_m99 : (-99 : Int32).toInt = -99 := rfl
/-- the class's way with moss is the reference's -/
theorem slc_eq {v m : Int32} (hv : -1000 ≤ v.toInt ∧ v.toInt ≤ 1000) (hm : 0 ≤ m.toInt ∧ m.toInt ≤ 9) : slc_ v m = li_ (sl_ v m) := by
  apply Int32.toInt_inj.mp
  have e1 : (li_ (sl_ v m)).toInt = max (-99) (min 99 (sl_ v m).toInt) := by unfold li_; rw [mx_i, mn_i]; rfl
  rw [e1]
  by_cases h : 0 ≤ v
  · have h' : 0 ≤ v.toInt := Int32.le_iff_toInt_le.mp h
    have e3 : (slc_ v m).toInt = min (max 0 (v.toInt - m.toInt)) 99 := by
      unfold slc_ ab_
      simp only [h, if_true]
      rw [mn_i, mx_i, sm_sub (by omega) (by omega), i_0, i_99]
    rw [e3]
    by_cases h2 : v ≤ 0
    · have h2' : v.toInt ≤ 0 := Int32.le_iff_toInt_le.mp h2
      have e4 : (sl_ v m).toInt = min 0 (v.toInt + m.toInt) := by
        unfold sl_
        simp only [h2, if_true]
        rw [mn_i, sm_add (by omega) (by omega), i_0]
      omega
    · have e4 : (sl_ v m).toInt = max 0 (v.toInt - m.toInt) := by
        unfold sl_
        simp only [h2, if_false]
        rw [mx_i, sm_sub (by omega) (by omega), i_0]
      omega
  · have h' : v.toInt < 0 := by
      apply Int.not_le.mp
      intro q
      exact h (Int32.le_iff_toInt_le.mpr q)
    have h2 : v ≤ 0 := Int32.le_iff_toInt_le.mpr (by rw [i_0]; omega)
    have e2 : (mn_ (mx_ 0 (-v - m)) 99).toInt = min (max 0 (-v.toInt - m.toInt)) 99 := by
      rw [mn_i, mx_i, sm_sub (by rw [sm_neg (by omega)]; omega) (by omega), sm_neg (by omega), i_0, i_99]
    have e3 : (slc_ v m).toInt = -(min (max 0 (-v.toInt - m.toInt)) 99) := by
      unfold slc_ ab_
      simp only [h, if_false]
      rw [sm_neg (by rw [e2]; omega), e2]
    have e4 : (sl_ v m).toInt = min 0 (v.toInt + m.toInt) := by
      unfold sl_
      simp only [h2, if_true]
      rw [mn_i, sm_add (by omega) (by omega), i_0]
    rw [e3, e4]
    omega
theorem li_b (x : Int32) : -99 ≤ (li_ x).toInt ∧ (li_ x).toInt ≤ 99 := by
  unfold li_
  rw [mx_i, mn_i, i_99, i_m99]
  omega
theorem lt_b {g : Int32} (h : -99 ≤ g.toInt ∧ g.toInt ≤ 99) : -99 ≤ (lt_ g).toInt ∧ (lt_ g).toInt ≤ 99 := by
  unfold lt_
  split <;> rename_i q
  · exact h
  · have : ¬ g.toInt ≤ 0 := fun z => q (Int32.le_iff_toInt_le.mpr (by rw [i_0]; exact z))
    rw [sm_sub (by omega) (by decide), show (1 : Int32).toInt = 1 from rfl]
    omega
theorem half_b {g : Int32} (h : -99 ≤ g.toInt ∧ g.toInt ≤ 99) : -99 ≤ (g / 2).toInt ∧ (g / 2).toInt ≤ 99 := by
  rw [Int32.toInt_div_of_ne_right g 2 (by decide)]
  show -99 ≤ g.toInt.tdiv 2 ∧ g.toInt.tdiv 2 ≤ 99
  rcases Int.le_total 0 g.toInt with h0 | h0
  · rw [Int.tdiv_eq_ediv_of_nonneg h0]; omega
  · have e : g.toInt = -(-g.toInt) := by omega
    rw [e, Int.neg_tdiv, Int.tdiv_eq_ediv_of_nonneg (by omega)]
    omega
theorem pk_b {k g sm tk : Int32} (h : -99 ≤ g.toInt ∧ g.toInt ≤ 99) : -1000 ≤ (pk_ k g sm tk).toInt ∧ (pk_ k g sm tk).toInt ≤ 1000 := by
  have h2 : (2 * g).toInt = 2 * g.toInt := sm_mul (by omega) (Or.inl rfl)
  have h3 : (-2 * g).toInt = -2 * g.toInt := sm_mul (by omega) (Or.inr rfl)
  have hl := lt_b h
  have hll := lt_b hl
  have hh := half_b h
  unfold pk_
  split
  · omega
  split
  · omega
  split
  · omega
  split
  · split
    · rw [sm_add (by omega) (by decide), show (3 : Int32).toInt = 3 from rfl]; omega
    · rw [sm_add (by omega) (by decide), i_0]; omega
  split
  · split
    · split
      · rw [sm_add (by omega) (by decide), i_0]; omega
      · rw [sm_add (by omega) (by decide), show (1 : Int32).toInt = 1 from rfl]; omega
    · rw [sm_add (by omega) (by decide), i_0]; omega
  split
  · omega
  · omega
