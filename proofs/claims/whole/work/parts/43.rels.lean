/-! THE CLASS'S CELLS, place by place, beside the model's row of numbers -/
def RM (s wo st jo de ac : Int → Int) (p : Int → Int) : Prop := s 0 = p 0 ∧ s 1 = p 1 ∧ (∀ k, 0 ≤ k → k < p 1 → wo k = p (10 + k) ∧ st k = p (26 + k) ∧ jo k = p (42 + k) ∧ de k = p (58 + k) ∧ ac k = p (74 + k))
def RLd (s ow fo tl mu to : Int → Int) (p : Int → Int) : Prop := s 0 = p 4 ∧ (∀ k, 0 ≤ k → k < p 4 → ow k = p (690 + k) ∧ fo k = p (1390 + k) ∧ tl k = p (2090 + k) ∧ mu k = p (2790 + k)) ∧ (∀ k, 0 ≤ k → k < 16 → to k = gSv p k 400 400) ∧ s 7 = p 6161 ∧ w32 (s 8) = p 6162
def RA (s me ki su we gi lo bs ba pl : Int → Int) (p : Int → Int) : Prop := s 0 = p 2 ∧ (∀ k, 0 ≤ k → k < p 2 → me k = p (90 + k) ∧ ki k = p (114 + k) ∧ su k = p (138 + k) ∧ we k = p (162 + k) ∧ gi k = p (186 + k) ∧ lo k = p (210 + k) ∧ bs k = p (234 + k)) ∧ (∀ k j, 0 ≤ k → k < p 2 → 0 ≤ j → j < 4 → ba (k * 4 + j) = p (258 + 4 * k + j) ∧ pl (k * 4 + j) = p (354 + 4 * k + j))
def RN (s ask me ki su we le ig us pa la sta fm fb lo ea : Int → Int) (p : Int → Int) : Prop := s 0 = p 3 ∧ (∀ k, 0 ≤ k → k < p 3 → ask k = p (450 + k) ∧ me k = p (90 + p (450 + k)) ∧ ki k = p (114 + p (450 + k)) ∧ su k = p (138 + p (450 + k)) ∧ we k = p (162 + p (450 + k)) ∧ le k = p (474 + k) ∧ ig k = p (498 + k) ∧ us k = gEc p (p (450 + k)) (p (498 + k)) ∧ pa k = p (522 + k) ∧ la k = p (546 + k) ∧ sta k = p (570 + k) ∧ fm k = p (594 + k) ∧ fb k = p (618 + k) ∧ lo k = p (642 + k) ∧ ea k = p (666 + k))
abbrev RMx (x : zM) (p : Int → Int) : Prop := RM (x 1) (x 2) (x 3) (x 4) (x 5) (x 6) p
abbrev RLx (x : zM) (p : Int → Int) : Prop := RLd (x 7) (x 8) (x 9) (x 10) (x 11) (x 12) p
abbrev RLt (x : zM) (p : Int → Int) : Prop := RLd (x 363) (x 364) (x 365) (x 366) (x 367) (x 368) p
abbrev RAx (x : zM) (p : Int → Int) : Prop := RA (x 14) (x 15) (x 16) (x 17) (x 18) (x 19) (x 20) (x 21) (x 22) (x 47) p
abbrev RNx (x : zM) (p : Int → Int) : Prop := RN (x 72) (x 73) (x 74) (x 75) (x 76) (x 77) (x 78) (x 79) (x 80) (x 81) (x 82) (x 83) (x 84) (x 85) (x 86) (x 87) p
abbrev RNt (x : zM) (p : Int → Int) : Prop := RN (x 370) (x 371) (x 372) (x 373) (x 374) (x 375) (x 376) (x 377) (x 378) (x 379) (x 380) (x 381) (x 382) (x 383) (x 384) (x 385) p
