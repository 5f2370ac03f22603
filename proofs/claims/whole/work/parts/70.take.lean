/-! WHAT IS TAKEN OF SAVINGS -/
def gTk (p : Int → Int) (v most : Int) : Int := if gSv p v 400 400 < most then (if gSv p v 400 400 ≤ 0 then 0 else gSv p v 400 400) else (if most ≤ 0 then 0 else most)
def gTp (p : Int → Int) (v most : Int) : Int → Int := if gTk p v most = 0 then p else gEn p v (p 0) (-(gTk p v most))
theorem gTk_bd (p : Int → Int) (v most : Int) : 0 ≤ gTk p v most ∧ (gTk p v most ≤ most ∨ gTk p v most = 0) ∧ gTk p v most < 2147483648 := by
  have := gSv_hi p v 400 400
  have h2 : most ≤ gSv p v 400 400 ∨ gSv p v 400 400 < most := by omega
  unfold gTk
  split
  · split <;> omega
  · split <;> omega
theorem gTp_J {p : Int → Int} {v most : Int} (hB : IB p) (hE : IE p) (v0 : 0 ≤ v) (v1 : v < p 1) (h6 : p 4 < 700) : IB (gTp p v most) ∧ IE (gTp p v most) ∧ gTp p v most 4 ≤ p 4 + 1 ∧ (∀ i, i ≠ 4 → i < 690 ∨ 3490 ≤ i → gTp p v most i = p i) := by
  have hb := hB; unfold IB at hb
  unfold gTp
  by_cases c : gTk p v most = 0
  · rw [if_pos c]
    exact ⟨hB, hE, by omega, fun i _ _ => rfl⟩
  · rw [if_neg c]
    refine ⟨IB_en hB (fun _ => h6), IE_en hB hE v0 v1 (by omega) (by omega) (fun _ => h6), ?_, fun i a b => gEn_o hB (fun _ => h6) a b⟩
    rw [gEn_4 hB]; split <;> omega
theorem s239 {d : Nat} {v most : Int} {p : Int → Int} {x m : zM} {Q : Int → zM → zM → Prop} (hp : m 387 = p) (hd : 3 ≤ d) (hB : IB p) (hE : IE p) (h6 : p 4 < 700) (h : Q (gTk p v most) x (zP m (gTp p v most))) : WPc d 239 [zr 386, zi v, zi most] 403 [] x m 403 [] Q := by
  subst hp
  have hb := hB; unfold IB at hb
  have lo := gSv_lo (m 387) v 400 400
  have hi := gSv_hi (m 387) v 400 400
  have h6' : ∀ a w, gI (m 387) a w = -1 → m 387 4 < 700 := fun _ _ _ => h6
  unfold gTp gTk at h
  apply r239
  intro hz1 hz2
  unfold zIn at hz1 hz2
  repeat' (first | (with_reducible assumption) | (with_reducible rfl) | (with_reducible apply And.intro) | (with_reducible apply zIn_mk) | (with_reducible apply zLn_mk) | ((with_reducible intro _); try (exfalso; omega)) | omega | (with_reducible exact Or.inr trivial) | (with_reducible exact Or.inl trivial) | (with_reducible apply s181) | ((refine s178 (p := m 387) rfl (by omega) hB hE (h6' _ _) (by unfold zIn; omega) ?_)) | ((refine s178 (p := m 387) (by omega) rfl hB hE (h6' _ _) (by unfold zIn; omega) ?_)) | (((repeat (first | rw [if_pos (by omega)] at h | rw [if_neg (by omega)] at h)); first | exact h | (rw [zP_self] at h; exact h))) | fail)
theorem c10_7 {d : Nat} {v most w : Int} {p : Int → Int} {x m : zM} {Q : Int → zM → zM → Prop} (hd : 3 ≤ d) (hL : RLx x p) (hB : IB p) (hE : IE p) (hw : w = p 0) (v0 : 0 ≤ v) (v1 : v < p 1) (h6 : p 4 < 700) (h : ∀ x', (∀ k, k < 7 ∨ 12 < k → x' k = x k) → RLx x' (gTp p v most) → Q (gTk p v most) x' m) : WPc d 10 [zr 7, zi v, zi most, zi w] 403 [] x m 403 [] Q := by
  have hb := hB; unfold IB at hb
  have bd := gTk_bd p v most
  have et := hL.2.2.1 v v0 (by omega)
  have ez : zmx 0 (zmn most (x 12 v)) = gTk p v most := by
    rw [et]; unfold zmx zmn gTk; split <;> split <;> (try split) <;> omega
  unfold gTp at h
  apply r10_7
  simp only [ez]
  repeat' (first | (with_reducible assumption) | (with_reducible rfl) | (with_reducible apply And.intro) | (with_reducible apply zIn_mk) | (with_reducible apply zLn_mk) | ((with_reducible intro _); try (exfalso; omega)) | omega | (with_reducible exact Or.inr trivial) | (with_reducible exact Or.inl trivial) | ((refine c25_7 (by omega) hL hB hE hw v0 (by omega) (by omega) (by omega) (fun _ => h6) ?_; intro xB hB1 hB2; rw [hw] at hB2; refine h xB hB1 ?_; rw [if_neg (by omega)]; exact hB2)) | ((refine c25_7 (by omega) hL hB hE hw v0 (by omega) (by omega) (by omega) (fun _ => h6) ?_; intro xB hB1 hB2; refine h xB hB1 ?_; rw [if_neg (by omega), ← hw]; exact hB2)) | ((refine h x (fun k _ => rfl) ?_; rw [if_pos (by omega)]; exact hL)) | fail)
theorem c10_363 {d : Nat} {v most w : Int} {p : Int → Int} {x m : zM} {Q : Int → zM → zM → Prop} (hd : 3 ≤ d) (hL : RLt x p) (hB : IB p) (hE : IE p) (hw : w = p 0) (v0 : 0 ≤ v) (v1 : v < p 1) (h6 : p 4 < 700) (h : ∀ x', (∀ k, k < 363 ∨ 368 < k → x' k = x k) → RLt x' (gTp p v most) → Q (gTk p v most) x' m) : WPc d 10 [zr 363, zi v, zi most, zi w] 403 [] x m 403 [] Q := by
  have hb := hB; unfold IB at hb
  have bd := gTk_bd p v most
  have et := hL.2.2.1 v v0 (by omega)
  have ez : zmx 0 (zmn most (x 368 v)) = gTk p v most := by
    rw [et]; unfold zmx zmn gTk; split <;> split <;> (try split) <;> omega
  unfold gTp at h
  apply r10_363
  simp only [ez]
  repeat' (first | (with_reducible assumption) | (with_reducible rfl) | (with_reducible apply And.intro) | (with_reducible apply zIn_mk) | (with_reducible apply zLn_mk) | ((with_reducible intro _); try (exfalso; omega)) | omega | (with_reducible exact Or.inr trivial) | (with_reducible exact Or.inl trivial) | ((refine c25_363 (by omega) hL hB hE hw v0 (by omega) (by omega) (by omega) (fun _ => h6) ?_; intro xB hB1 hB2; rw [hw] at hB2; refine h xB hB1 ?_; rw [if_neg (by omega)]; exact hB2)) | ((refine c25_363 (by omega) hL hB hE hw v0 (by omega) (by omega) (by omega) (fun _ => h6) ?_; intro xB hB1 hB2; refine h xB hB1 ?_; rw [if_neg (by omega), ← hw]; exact hB2)) | ((refine h x (fun k _ => rfl) ?_; rw [if_pos (by omega)]; exact hL)) | fail)
